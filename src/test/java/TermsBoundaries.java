/** The boundary cases of the terms: numbers and limits, merging, retiring, letters and texts. */
final class TermsBoundaries {
    private final Due due;

    TermsBoundaries(Due due) {
        this.due = due;
    }

    void test() {
        setsAsBits();
        numbersOfViews();
        numbersOfWriters();
        homesAlone();
        versionsAndAmounts();
        versionsOfParts();
        sums();
        greaterVersions();
        gravesOfBoth();
        leavingPartsToHeirs();
        retiredWritersDoNothing();
        theTime();
        whatLettersHave();
        lettersOnTheirWay();
        lettersThatComeAtOneTime();
        lettersThatStayOnTheirWay();
        lostLetters();
        ordersOfEachKind();
        digits();
        theFirstFault();
        theReason();
        theCause();
    }

    private void setsAsBits() {
        PartedSums x = due.sentence("Terms", "All numbers are whole numbers",
            "Sets of writers or views are told as bits: bit k is for number k");
        WriterBoundaries.writers(x, 8);
        for (int k = 2; k < 6; k++) {
            x.view(0);
        }
        for (int k = 0; k < 7; k++) {
            x.retire(k, 7);
        }
        due.is("viewOf(0, 6), 7 alone", x.viewOf(0, 6), 1 << 7);
        due.is("viewOf(0, 5), 7 alone", x.viewOf(0, 5), 1 << 7);
        due.is("viewOf(1, 7), 1 alone", x.viewOf(1, 7), 1 << 1);
        due.is("writerOf(7, 3), 0 alone", x.writerOf(7, 3), 1);
        due.is("writerOf(0, 4), 0 alone", x.writerOf(0, 4), 1);
        due.is("count(10), 0 to 5", x.count(10), 63);
    }

    private void numbersOfViews() {
        PartedSums x = due.sentence("Terms", "There are at most 6 views, numbered 0 to 5 (0 and 1 at first",
            "a new one gets the lowest number that is free)");
        due.is("count(10), 0 and 1 at first", x.count(10), 3);
        for (int k = 2; k < 6; k++) {
            due.is("view(1)", x.view(1), k);
        }
        due.is("view(1), a seventh", x.view(1), Due.LIMIT);
        int[] free = {5, 0, 3, 1};
        for (int view : free) {
            x.drop(view);
        }
        int[] lowest = {0, 1, 3, 5};
        for (int view : lowest) {
            due.is("view(2), the lowest that is free", x.view(2), view);
        }
        due.is("view(2), none is free", x.view(2), Due.LIMIT);
    }

    private void numbersOfWriters() {
        PartedSums x = due.sentence("Terms", "and at most 8 writers, numbered from 0 in the order in which they came "
            + "(no number comes again: at most 8 ever)");
        due.is("writer(1)", x.writer(1), 0);
        due.is("writer(1)", x.writer(1), 1);
        due.is("retire(1, 0)", x.retire(1, 0), 1);
        due.is("writer(1), not 1 again", x.writer(1), 2);
        for (int k = 3; k < 8; k++) {
            due.is("writer(1)", x.writer(1), k);
            due.is("retire(" + k + ", 0)", x.retire(k, 0), 2);
        }
        due.is("writer(1), two of eight have not retired", x.writer(1), Due.LIMIT);
    }

    private void homesAlone() {
        PartedSums x = due.sentence("Terms", "A writer has a home, a view", "there alone it writes");
        x.writer(0);
        x.merge(1, 0);
        x.add(0, 5);
        due.is("viewOf(1, 1), its home alone", x.viewOf(1, 1), 0);
        x.merge(1, 0);
        x.move(0, 1);
        x.add(0, 6);
        x.take(0, 1);
        due.is("viewOf(1, 1), its new home", x.viewOf(1, 1), 11);
        due.is("viewOf(1, 2), its new home", x.viewOf(1, 2), 1);
        due.is("viewOf(0, 1), not there any more", x.viewOf(0, 1), 5);
        due.is("viewOf(0, 2), not there any more", x.viewOf(0, 2), 0);
    }

    private void versionsAndAmounts() {
        PartedSums x = due.sentence("Terms",
            "A view knows parts: of some writers each a version (1 or more), an amount added, and an amount taken (0 "
                + "or more)",
            "A writer that comes has the part with the version 1, and both amounts 0, in its home");
        x.writer(0);
        x.add(0, 999);
        x.writer(0);
        int[] first = {1, 0, 0};
        for (int what = 0; what < 3; what++) {
            due.is("partOf(0, 1, " + what + ")", x.partOf(0, 1, what), first[what]);
            due.is("partOf(1, 1, " + what + "), not its home", x.partOf(1, 1, what), Due.MISSING);
        }
        due.is("partOf(0, 0, 0), another writer's", x.partOf(0, 0, 0), 2);
    }

    private void versionsOfParts() {
        PartedSums x = due.sentence("Terms",
            "When a writer adds or takes, its part in its home has a version that is greater by 1, "
            + "and the amount added or taken is greater");
        WriterBoundaries.writers(x, 2);
        x.add(0, 1);
        x.add(0, 999);
        x.take(0, 1);
        x.take(0, 999);
        x.take(0, 1);
        int[] part = {5, 1000, 1000};
        int[] other = {1, 0, 0};
        for (int what = 0; what < 3; what++) {
            due.is("partOf(0, 0, " + what + ")", x.partOf(0, 0, what), part[what]);
            due.is("partOf(0, 1, " + what + ")", x.partOf(0, 1, what), other[what]);
        }
        x.take(0, 1);
        x.add(0, 0);
        due.is("partOf(0, 0, 0), errors write nothing", x.partOf(0, 0, 0), 5);
    }

    private void sums() {
        PartedSums x = due.sentence("Terms",
            "The sum of a view is all amounts added less all amounts taken, of the parts that it knows");
        due.is("viewOf(0, 0), no parts", x.viewOf(0, 0), 0);
        WriterBoundaries.writers(x, 8);
        for (int k = 0; k < 8; k++) {
            x.add(k, 10 + k);
            x.take(k, k);
        }
        due.is("viewOf(0, 0), eight parts", x.viewOf(0, 0), 80);
        due.is("viewOf(1, 0), no parts", x.viewOf(1, 0), 0);
    }

    private void greaterVersions() {
        PartedSums x = due.sentence("Merging",
            "When a view takes in what another one knew, it has of each writer the part with the greater "
            + "version of both (or the one that is known)");
        x.writer(0);
        x.writer(1);
        due.is("merge(0, 1), known there alone", x.merge(0, 1), 1);
        due.is("partOf(0, 0, 0), known here alone", x.partOf(0, 0, 0), 1);
        due.is("partOf(0, 1, 0)", x.partOf(0, 1, 0), 1);
        due.is("merge(0, 1), equal versions", x.merge(0, 1), 0);
        x.add(1, 5);
        x.add(0, 7);
        due.is("merge(0, 1), one greater, one not known there", x.merge(0, 1), 1);
        due.is("partOf(0, 1, 1)", x.partOf(0, 1, 1), 5);
        due.is("merge(1, 0)", x.merge(1, 0), 1);
        x.take(1, 12);
        due.is("merge(1, 0), one less", x.merge(1, 0), 0);
        due.is("viewOf(1, 0)", x.viewOf(1, 0), 0);
        due.is("merge(0, 1), a greater version with a smaller sum", x.merge(0, 1), 1);
        due.is("viewOf(0, 0)", x.viewOf(0, 0), 0);
    }

    private void gravesOfBoth() {
        PartedSums x = due.sentence("Merging",
            "and all graves of both", "then the parts of all writers that have a grave in it are gone");
        WriterBoundaries.writers(x, 2);
        x.writer(1);
        x.writer(1);
        x.merge(0, 1);
        x.merge(1, 0);
        x.add(0, 3);
        x.retire(0, 1);
        x.retire(2, 3);
        due.is("merge(0, 1), one gone by their grave, one newer", x.merge(0, 1), 2);
        due.is("viewOf(0, 4), both", x.viewOf(0, 4), 2);
        due.is("viewOf(0, 6), no part of 0 comes back", x.viewOf(0, 6), 10);
        due.is("merge(1, 0)", x.merge(1, 0), 2);
        due.is("viewOf(1, 4), both", x.viewOf(1, 4), 2);
        due.is("viewOf(1, 6)", x.viewOf(1, 6), 10);
        due.is("viewOf(1, 7)", x.viewOf(1, 7), 3);

        PartedSums y = due.sentence("Merging", "then the parts of all writers that have a grave in it are gone");
        WriterBoundaries.writers(y, 8);
        y.view(0);
        for (int k = 0; k < 7; k++) {
            y.retire(k, 7);
        }
        due.is("merge(0, 2), seven that come are gone at once", y.merge(0, 2), 0);
        due.is("viewOf(0, 3)", y.viewOf(0, 3), 1);
        due.is("merge(1, 0)", y.merge(1, 0), 1);
        due.is("merge(1, 2), seven that come are gone at once", y.merge(1, 2), 0);
        due.is("writerOf(6, 4)", y.writerOf(6, 4), 3);
    }

    private void leavingPartsToHeirs() {
        PartedSums x = due.sentence("Retiring",
            "A writer retires in its home and leaves its part to an heir, a writer with the same home: "
            + "the version of the heir's part is greater by 1, both amounts of the heir's part are greater by those of "
            + "the writer, "
            + "the part of the writer is gone there, and there is a grave of the writer there");
        WriterBoundaries.writers(x, 3);
        x.add(0, 30);
        x.take(0, 4);
        x.add(0, 1);
        x.add(1, 500);
        x.take(1, 100);
        x.merge(1, 0);
        x.retire(0, 1);
        int[][] heirs = {{4, 531, 104}, {3, 500, 100}};
        int[][] retired = {{Due.MISSING, Due.MISSING, Due.MISSING}, {4, 31, 4}};
        int[] others = {1, 0, 0};
        for (int view = 0; view < 2; view++) {
            for (int what = 0; what < 3; what++) {
                due.is("partOf(" + view + ", 1, " + what + ")", x.partOf(view, 1, what), heirs[view][what]);
                due.is("partOf(" + view + ", 0, " + what + ")", x.partOf(view, 0, what), retired[view][what]);
                due.is("partOf(" + view + ", 2, " + what + ")", x.partOf(view, 2, what), others[what]);
            }
        }
        due.is("writerOf(0, 4), there alone", x.writerOf(0, 4), 1);
        due.is("viewOf(0, 0), the sum stays", x.viewOf(0, 0), 427);
        x.retire(2, 1);
        due.is("partOf(0, 1, 0), a part of nothing is left too", x.partOf(0, 1, 0), 5);
        due.is("viewOf(0, 4)", x.viewOf(0, 4), 2);
    }

    private void retiredWritersDoNothing() {
        due.sentence("Retiring", "A writer that has retired does nothing any more");
        Steady steady = new Steady(due, x -> {
            WriterBoundaries.writers(x, 3);
            x.add(0, 30);
            x.merge(1, 0);
            x.retire(0, 1);
        });
        steady.leaves("add(0, 1)", Due.IMPOSSIBLE, x -> x.add(0, 1));
        steady.leaves("take(0, 1)", Due.IMPOSSIBLE, x -> x.take(0, 1));
        steady.leaves("retire(0, 2)", Due.IMPOSSIBLE, x -> x.retire(0, 2));
        steady.leaves("retire(2, 0)", Due.IMPOSSIBLE, x -> x.retire(2, 0));
        steady.leaves("move(0, 1)", Due.IMPOSSIBLE, x -> x.move(0, 1));
    }

    private void theTime() {
        PartedSums x = due.sentence("Retiring", "Time is counted in ticks, from 0");
        due.is("count(4)", x.count(4), 0);
        x.tick(1);
        due.is("count(4)", x.count(4), 1);
        x.tick(99);
        due.is("count(4)", x.count(4), 100);
        x.writer(0);
        due.is("count(4), other calls take no time", x.count(4), 100);
    }

    private void whatLettersHave() {
        PartedSums x = due.sentence("Retiring",
            "A letter from a view to another one has what the former knew when it was posted "
            + "(parts and graves), and comes some ticks later");
        WriterBoundaries.writers(x, 3);
        x.add(0, 4);
        x.retire(2, 1);
        x.view(0);
        x.post(2, 1, 3);
        x.add(0, 5);
        x.merge(2, 0);
        x.retire(0, 1);
        x.drop(2);
        due.is("tick(2), not yet", x.tick(2), 0);
        due.is("viewOf(1, 3)", x.viewOf(1, 3), 0);
        due.is("tick(1), from a view that is dropped", x.tick(1), 1);
        due.is("viewOf(1, 0), as it was posted", x.viewOf(1, 0), 4);
        due.is("viewOf(1, 6)", x.viewOf(1, 6), 3);
        due.is("viewOf(1, 4), the grave of 2 alone", x.viewOf(1, 4), 1);
        due.is("writerOf(2, 4)", x.writerOf(2, 4), 3);
        due.is("writerOf(0, 4)", x.writerOf(0, 4), 1);
    }

    private void lettersOnTheirWay() {
        PartedSums x = due.sentence("Retiring", "at most 8 letters are on their way");
        for (int k = 1; k <= 8; k++) {
            due.is("post(0, 1, " + k + ")", x.post(0, 1, k), k);
        }
        due.is("post(0, 1, 1)", x.post(0, 1, 1), Due.LIMIT);
        for (int k = 1; k <= 8; k++) {
            due.is("tick(1)", x.tick(1), 1);
            due.is("post(1, 0, 9), one more", x.post(1, 0, 9), 9 + k);
            due.is("post(1, 0, 9), one too many", x.post(1, 0, 9), Due.LIMIT);
        }
    }

    private void lettersThatComeAtOneTime() {
        String words = "When a tick passes, the time becomes 1 more, and then all letters that come at this time are "
            + "taken in, those posted first, first";
        PartedSums x = due.sentence("Retiring", words);
        x.writer(0);
        for (int k = 0; k < 7; k++) {
            x.add(0, 1);
            x.post(0, 1, 5);
        }
        x.post(0, 1, 6);
        due.is("tick(4)", x.tick(4), 0);
        due.is("tick(1), all seven", x.tick(1), 7);
        due.is("count(7), each of them newer", x.count(7), 7);

        // Had the newer one been taken in first, the older one would have told nothing.
        PartedSums y = due.sentence("Retiring", words);
        y.writer(0);
        y.post(0, 1, 6);
        y.tick(3);
        y.add(0, 1);
        y.post(0, 1, 3);
        y.add(0, 1);
        y.post(0, 1, 2);
        due.is("tick(99), by their times", y.tick(99), 3);
        due.is("count(7), the newest one came first", y.count(7), 1);
        y.post(1, 0, 9);
        y.tick(8);
        y.add(0, 1);
        y.post(0, 1, 1);
        y.add(0, 1);
        y.post(0, 1, 1);
        due.is("tick(1)", y.tick(1), 3);
        due.is("count(7), two more", y.count(7), 3);
    }

    private void areOnTheirWay(PartedSums x, int... sums) {
        for (int k = 0; k < sums.length; k++) {
            due.is("letterOf(" + k + ", 3)", x.letterOf(k, 3), sums[k]);
        }
        due.is("count(3)", x.count(3), sums.length);
    }

    private void lettersThatStayOnTheirWay() {
        PartedSums x = due.sentence("Retiring", "and then all letters that come at this time are taken in");
        x.writer(0);
        for (int ticks : new int[] {9, 1, 8, 2, 7}) {
            x.add(0, 1);
            x.post(0, 1, ticks);
        }
        areOnTheirWay(x, 2, 4, 5, 3, 1);
        Due.type(x, "k1;a0,1;p0,1,2;k1;a0,1;p0,1,9;");
        due.is("play(), two come, two are posted", x.play(), 6);
        areOnTheirWay(x, 6, 5, 3, 1, 7);
        for (int k = 0; k < 12; k++) {
            x.take(0, 1);
            x.add(0, 1);
            areOnTheirWay(x, 6, 5, 3, 1, 7);
        }
        x.tick(6);
        x.post(0, 1, 1);
        areOnTheirWay(x, 1, 7, 7);
        for (int k = 0; k < 6; k++) {
            x.view(0);
            x.drop(2);
            areOnTheirWay(x, 1, 7, 7);
        }
    }

    private void lostLetters() {
        PartedSums x = due.sentence("Retiring",
            "A letter to a view that has been dropped is lost (also if there is a new view with this number)");
        x.add(x.writer(0), 8);
        x.post(0, 1, 1);
        x.post(0, 1, 2);
        x.drop(1);
        due.is("tick(1), no view there", x.tick(1), 0);
        due.is("count(6)", x.count(6), 1);
        x.drop(0);
        due.is("view(0)", x.view(0), 1);
        x.add(0, 1);
        x.post(0, 1, 1);
        due.is("letterOf(0, 4), to the old one", x.letterOf(0, 4), 1);
        due.is("letterOf(1, 4), to the new one", x.letterOf(1, 4), 0);
        due.is("tick(1), a new view there", x.tick(1), 1);
        due.is("count(6)", x.count(6), 2);
        due.is("count(5)", x.count(5), 1);
        due.is("viewOf(1, 0)", x.viewOf(1, 0), 9);
    }

    private int play(PartedSums x, String text) {
        Due.retype(x, text);
        return x.play();
    }

    private void ordersOfEachKind() {
        PartedSums x = due.sentence("Texts",
            "There is a text of at most 60 characters, initially empty: orders, each followed by \";\": "
            + "\"n\" a view (a writer comes), \"a\" a writer, \",\", an amount (added), \"t\" a writer, \",\", an "
            + "amount (taken), "
            + "\"r\" a writer, \",\", an heir (retired), \"p\" a view, \",\", a view, \",\", ticks (a letter is "
            + "posted) or \"k\" ticks (they pass)");
        due.is("count(9), initially empty", x.count(9), 0);
        due.is("play n1;", play(x, "n1;"), 1);
        due.is("writerOf(0, 0), a writer comes", x.writerOf(0, 0), 1);
        due.is("play a0,9;", play(x, "a0,9;"), 1);
        due.is("partOf(1, 0, 1), added", x.partOf(1, 0, 1), 9);
        due.is("play t0,4;", play(x, "t0,4;"), 1);
        due.is("partOf(1, 0, 2), taken", x.partOf(1, 0, 2), 4);
        x.writer(1);
        due.is("play r0,1;", play(x, "r0,1;"), 1);
        due.is("writerOf(0, 2), retired", x.writerOf(0, 2), 1);
        due.is("play p1,0,2;", play(x, "p1,0,2;"), 1);
        due.is("letterOf(0, 0), posted", x.letterOf(0, 0), 1);
        due.is("letterOf(0, 1), posted", x.letterOf(0, 1), 0);
        due.is("letterOf(0, 2), posted", x.letterOf(0, 2), 2);
        due.is("play k2;", play(x, "k2;"), 1);
        due.is("viewOf(0, 0), they pass", x.viewOf(0, 0), 5);
        String[] others = {"v0;", "d0;", "m0,1;", "m0,0;", "u;", "N0;", "A0,1;", "K1;", " k1;", "1;", ",;", "z1;"};
        for (String text : others) {
            due.is("play " + text, play(x, text), Due.IMPOSSIBLE);
            due.is("fault(1) of " + text, x.fault(1), 1);
            due.is("fault(2) of " + text, x.fault(2), 0);
        }
    }

    private void digits() {
        PartedSums x = due.sentence("Texts", "numbers of 1 to 3 digits, 0 ahead allowed");
        x.writer(0);
        String[] right = {"a0,1;", "a0,12;", "a0,999;", "a0,001;", "a0,010;", "a00,1;", "a000,1;", "k1;", "k01;",
            "k001;", "p0,1,09;", "p00,001,9;", "n000;"};
        for (String text : right) {
            due.is("play " + text, play(x, text), 1);
        }
        due.is("viewOf(0, 0)", x.viewOf(0, 0), 1 + 12 + 999 + 1 + 10 + 1 + 1);
        due.is("count(4)", x.count(4), 3);
        String[] wrong = {"a0,;", "a0,0001;", "a0,1000;", "a,1;", "a0000,1;", "k;", "k0001;", "k1000;", "p0,1,;",
            "p0,,9;", "p0,1,0009;",
            "n;", "n0000;", "a0,-1;", "a0,+1;", "a0,1.;", "a0, 1;", "k1 ;", "k/;", "k:;", "k1/;", "k1:;"};
        int[] causes = {3, 6, 6, 1, 4, 1, 4, 4, 5, 3, 8, 1, 4, 3, 3, 4, 3, 2, 1, 1, 2, 2};
        due.is("as many causes", causes.length, wrong.length);
        for (int k = 0; k < wrong.length; k++) {
            due.is("play " + wrong[k], play(x, wrong[k]), Due.IMPOSSIBLE);
            due.is("fault(1) of " + wrong[k], x.fault(1), 1);
            due.is("fault(2) of " + wrong[k], x.fault(2), causes[k]);
        }
    }

    private void isFault(PartedSums x, String text, int position, int reason, int cause) {
        Due.retype(x, text);
        due.is(text + ": fault(0)", x.fault(0), position);
        due.is(text + ": fault(1)", x.fault(1), reason);
        due.is(text + ": fault(2)", x.fault(2), cause);
    }

    private void theFirstFault() {
        PartedSums x = due.sentence("Texts",
            "The fault of the text is the position, from 0, of the first character of the first order that is not possible");
        isFault(x, "x", 0, 1, 0);
        isFault(x, "n2;", 0, 2, Due.INVALID);
        isFault(x, "n0;n2;x", 3, 2, Due.INVALID);
        isFault(x, "n0;x;n2;", 3, 1, 0);
        isFault(x, "n0;a0,1;a0,1000;", 8, 1, 6);
        isFault(x, "n0;a0,1;a0,000;", 8, 2, Due.INVALID);
    }

    private void theReason() {
        PartedSums x = due.sentence("Texts",
            "its reason is 1 if it is not of this form, its \";\" included, and otherwise 2, when those ahead of it "
                + "are done");
        isFault(x, "n2", 0, 1, 2);
        isFault(x, "n2,", 0, 1, 2);
        isFault(x, "n2;", 0, 2, Due.INVALID);
        isFault(x, "n0;a1,1;", 3, 2, Due.INVALID);
        Due.retype(x, "n0;n0;a1,1;");
        due.is("fault(1), two came ahead of it", x.fault(1), Due.MISSING);
        isFault(x, "n0;a0,5;t0,6;", 8, 2, Due.IMPOSSIBLE);
        Due.retype(x, "n0;a0,5;t0,5;");
        due.is("fault(1), enough was added ahead of it", x.fault(1), Due.MISSING);
        isFault(x, "n0;a0,5;t0,5;t0,1;", 13, 2, Due.IMPOSSIBLE);
        due.is("count(1), none is done", x.count(1), 0);
    }

    private void theCause() {
        PartedSums x = due.sentence("Texts",
            "its cause is with the reason 1 at which character of the order, from 0, it breaks off "
            + "(of one that the text ends too early it is its length), and with the reason 2 the error code that the "
            + "call returns for it");
        String order = "p000,001,099;";
        for (int length = 1; length < order.length(); length++) {
            isFault(new PartedSums(), order.substring(0, length), 0, 1, length);
            isFault(new PartedSums(), "k1;" + order.substring(0, length) + "x", 3, 1, length);
            isFault(new PartedSums(), "k1;" + order.substring(0, length), 3, 1, length);
        }
        x.writer(0);
        isFault(x, "a0,1;t0,2;", 5, 2, Due.IMPOSSIBLE);
        isFault(x, "a1,1;", 0, 2, Due.INVALID);
        isFault(x, "n0;n0;n0;n0;n0;n0;n0;n0;", 21, 2, Due.LIMIT);
    }
}
