/** The boundary cases of the promises 12 to 16: what is told of views, parts, writers and letters. */
final class TellBoundaries {
    private static final int[] FAR = {-1, -2, 11, 32, 64, Integer.MAX_VALUE, Integer.MIN_VALUE};

    private final Due due;

    TellBoundaries(Due due) {
        this.due = due;
    }

    void test() {
        viewsInRange();
        whatOfViews();
        sumsOfViews();
        partsAndGravesOfViews();
        writersOfViews();
        viewsThatKnowTheSame();
        partsInRange();
        whatOfParts();
        partsThatAreNotKnown();
        writersInRange();
        homesAndVersions();
        heirs();
        viewsThatAreUpToDate();
        viewsWithGraves();
        writersThatHaveRetired();
        lettersInRange();
        lettersInTheirOrder();
        viewsOfLetters();
        whatLettersTell();
        lettersThatWillBeLost();
        noSoManyLetters();
        lackingInRange();
        lackedParts();
        lackedSums();
        knowingTheSameThen();
    }

    /** The views 0, 1 and 3, the writers 0 (retired) to 2, a letter, and a text. */
    static void mixed(PartedSums x) {
        WriterBoundaries.writers(x, 2);
        x.writer(1);
        x.add(0, 20);
        x.merge(1, 0);
        x.view(0);
        x.view(0);
        x.drop(2);
        x.take(1, 4);
        x.post(0, 1, 3);
        x.retire(0, 1);
        x.add(2, 7);
        Due.type(x, "a2,1;k");
    }

    private Steady mixedState() {
        return new Steady(due, TellBoundaries::mixed);
    }

    private void viewsInRange() {
        due.sentence("Promise 12", "Returns something of a view", "`view`: number of the view", "Returns the number",
            "INVALID_ARGUMENT if an argument is out of range");
        Steady steady = mixedState();
        for (int view : WriterBoundaries.NOBODY) {
            steady.leaves("viewOf(" + view + ", 0)", Due.INVALID, x -> x.viewOf(view, 0));
        }
        for (int what = 0; what < 8; what++) {
            int asked = what;
            steady.leaves("viewOf(2, " + asked + "), dropped", Due.INVALID, x -> x.viewOf(2, asked));
        }
        steady.leaves("viewOf(4, 0), never made", Due.INVALID, x -> x.viewOf(4, 0));
        steady.leaves("viewOf(6, 0), behind all", Due.INVALID, x -> x.viewOf(6, 0));
        int[] known = {16, 20, 4, 1, 1, 2, 2, 1};
        for (int what = 0; what < 8; what++) {
            int asked = what;
            steady.leaves("viewOf(0, " + asked + ")", known[what], x -> x.viewOf(0, asked));
        }
        PartedSums y = due.sentence("Promise 12", "`view`: number of the view");
        ViewBoundaries.sixViews(y);
        due.is("viewOf(0, 0), the lowest", y.viewOf(0, 0), 5);
        due.is("viewOf(5, 0), the greatest", y.viewOf(5, 0), 5);
        due.is("viewOf(6, 0), behind all", y.viewOf(6, 0), Due.INVALID);
    }

    private void whatOfViews() {
        due.sentence("Promise 12", "INVALID_ARGUMENT if an argument is out of range");
        Steady steady = mixedState();
        for (int what : FAR) {
            steady.leaves("viewOf(0, " + what + ")", Due.INVALID, x -> x.viewOf(0, what));
        }
        steady.leaves("viewOf(0, 8)", Due.INVALID, x -> x.viewOf(0, 8));
        steady.leaves("viewOf(2, 8)", Due.INVALID, x -> x.viewOf(2, 8));
    }

    private void sumsOfViews() {
        PartedSums x = due.sentence("Promise 12", "0: its sum", "1: all amounts added", "2: all amounts taken");
        due.is("viewOf(0, 0), nothing known", x.viewOf(0, 0), 0);
        x.writer(0);
        due.is("viewOf(0, 0), a part of nothing", x.viewOf(0, 0), 0);
        for (int k = 1; k < 8; k++) {
            x.writer(1);
        }
        for (int k = 1; k < 8; k++) {
            x.add(k, 100);
            x.take(k, k);
        }
        due.is("viewOf(1, 0), seven parts", x.viewOf(1, 0), 672);
        due.is("viewOf(1, 1), seven parts", x.viewOf(1, 1), 700);
        due.is("viewOf(1, 2), seven parts", x.viewOf(1, 2), 28);
        x.add(0, 1000);
        x.add(0, 999);
        x.merge(1, 0);
        due.is("viewOf(1, 1), eight parts", x.viewOf(1, 1), 1699);
        x.merge(0, 1);
        x.take(0, 999);
        x.take(7, 999);
        x.take(6, 672);
        x.merge(0, 1);
        due.is("viewOf(0, 0), below 0", x.viewOf(0, 0), -999);
        due.is("viewOf(0, 1), below 0", x.viewOf(0, 1), 1699);
        due.is("viewOf(0, 2), below 0", x.viewOf(0, 2), 2698);
    }

    private void partsAndGravesOfViews() {
        PartedSums x = due.sentence("Promise 12",
            "3: parts that it knows", "4: graves", "6: the writers whose parts it knows, as a set");
        for (int k = 0; k < 8; k++) {
            due.is("viewOf(0, 3)", x.viewOf(0, 3), k);
            due.is("viewOf(0, 6)", x.viewOf(0, 6), (1 << k) - 1);
            x.writer(0);
        }
        due.is("viewOf(0, 3), all", x.viewOf(0, 3), 8);
        due.is("viewOf(0, 6), all", x.viewOf(0, 6), 255);
        for (int k = 7; k > 0; k--) {
            due.is("viewOf(0, 4)", x.viewOf(0, 4), 7 - k);
            x.retire(k, 0);
        }
        due.is("viewOf(0, 4), all but one", x.viewOf(0, 4), 7);
        due.is("viewOf(0, 3), all but one", x.viewOf(0, 3), 1);
        due.is("viewOf(0, 6), all but one", x.viewOf(0, 6), 1);
        due.is("viewOf(1, 4), not told", x.viewOf(1, 4), 0);
        x.merge(1, 0);
        due.is("viewOf(1, 4), told", x.viewOf(1, 4), 7);
        due.is("viewOf(1, 6), told", x.viewOf(1, 6), 1);
    }

    private void writersOfViews() {
        PartedSums x = due.sentence("Promise 12", "5: the writers whose home it is, that have not retired, as a set");
        due.is("viewOf(0, 5), none", x.viewOf(0, 5), 0);
        WriterBoundaries.writers(x, 8);
        due.is("viewOf(0, 5), all", x.viewOf(0, 5), 255);
        due.is("viewOf(1, 5), none", x.viewOf(1, 5), 0);
        x.retire(7, 0);
        due.is("viewOf(0, 5), 7 has retired", x.viewOf(0, 5), 127);
        x.merge(1, 0);
        due.is("viewOf(1, 5), known there", x.viewOf(1, 5), 0);
        x.move(0, 1);
        due.is("viewOf(0, 5), 0 has moved", x.viewOf(0, 5), 126);
        due.is("viewOf(1, 5), 0 has moved", x.viewOf(1, 5), 1);
    }

    private void viewsThatKnowTheSame() {
        PartedSums x = due.sentence("Promise 12",
            "7: views that know the same (parts and graves), itself included, as a set");
        due.is("viewOf(0, 7), nothing known", x.viewOf(0, 7), 3);
        for (int k = 2; k < 6; k++) {
            x.view(0);
        }
        due.is("viewOf(5, 7), all", x.viewOf(5, 7), 63);
        x.writer(5);
        due.is("viewOf(5, 7), itself", x.viewOf(5, 7), 32);
        due.is("viewOf(0, 7), all others", x.viewOf(0, 7), 31);
        x.writer(5);
        x.merge(0, 5);
        x.add(0, 1);
        due.is("viewOf(0, 7), another version", x.viewOf(0, 7), 1);
        x.merge(0, 5);
        due.is("viewOf(0, 7), the same parts", x.viewOf(0, 7), 33);

        PartedSums y = due.sentence("Promise 12",
            "7: views that know the same (parts and graves), itself included, as a set");
        WriterBoundaries.writers(y, 2);
        y.retire(0, 1);
        y.view(1);
        y.view(0);
        due.is("viewOf(0, 7), the same graves", y.viewOf(0, 7), 9);
        due.is("viewOf(1, 7), no graves", y.viewOf(1, 7), 6);
    }

    private void partsInRange() {
        due.sentence("Promise 13", "Returns something of a part", "`view`: number of the view",
            "`writer`: number of the writer", "INVALID_ARGUMENT if an argument is out of range");
        Steady steady = mixedState();
        for (int number : WriterBoundaries.NOBODY) {
            steady.leaves("partOf(" + number + ", 1, 0)", Due.INVALID, x -> x.partOf(number, 1, 0));
            steady.leaves("partOf(0, " + number + ", 0)", Due.INVALID, x -> x.partOf(0, number, 0));
        }
        steady.leaves("partOf(2, 1, 0), dropped", Due.INVALID, x -> x.partOf(2, 1, 0));
        steady.leaves("partOf(4, 1, 0), never made", Due.INVALID, x -> x.partOf(4, 1, 0));
        steady.leaves("partOf(0, 3, 0), of three", Due.INVALID, x -> x.partOf(0, 3, 0));
        steady.leaves("partOf(0, 7, 0), of three", Due.INVALID, x -> x.partOf(0, 7, 0));
        for (int what : FAR) {
            steady.leaves("partOf(0, 1, " + what + ")", Due.INVALID, x -> x.partOf(0, 1, what));
        }
        steady.leaves("partOf(0, 1, 3)", Due.INVALID, x -> x.partOf(0, 1, 3));
        PartedSums y = due.sentence("Promise 13", "`writer`: number of the writer");
        due.is("partOf(0, 0, 0), nobody", y.partOf(0, 0, 0), Due.INVALID);
        WriterBoundaries.writers(y, 8);
        for (int k = 2; k < 6; k++) {
            y.view(0);
        }
        y.add(0, 1);
        due.is("partOf(0, 0, 0), the lowest", y.partOf(0, 0, 0), 2);
        due.is("partOf(5, 7, 0), the greatest", y.partOf(5, 7, 0), 1);
        due.is("partOf(5, 8, 0)", y.partOf(5, 8, 0), Due.INVALID);
        due.is("partOf(6, 7, 0)", y.partOf(6, 7, 0), Due.INVALID);
    }

    private void whatOfParts() {
        due.sentence("Promise 13", "0: its version", "1: the amount added", "2: the amount taken", "Returns the number");
        Steady steady = mixedState();
        int[] heir = {3, 20, 4};
        int[] old = {2, 20, 0};
        for (int what = 0; what < 3; what++) {
            int asked = what;
            steady.leaves("partOf(0, 1, " + what + "), the heir's", heir[what], x -> x.partOf(0, 1, asked));
            steady.leaves("partOf(1, 0, " + what + "), the old one", old[what], x -> x.partOf(1, 0, asked));
        }
        PartedSums y = due.sentence("Promise 13", "0: its version", "1: the amount added", "2: the amount taken");
        y.writer(0);
        due.is("partOf(0, 0, 0), the first version", y.partOf(0, 0, 0), 1);
        due.is("partOf(0, 0, 1)", y.partOf(0, 0, 1), 0);
        due.is("partOf(0, 0, 2)", y.partOf(0, 0, 2), 0);
    }

    private void partsThatAreNotKnown() {
        due.sentence("Promise 13", "NOT_FOUND if the view does not know it");
        Steady steady = mixedState();
        for (int what = 0; what < 3; what++) {
            int asked = what;
            steady.leaves("partOf(0, 2, " + what + "), never known", Due.MISSING, x -> x.partOf(0, 2, asked));
            steady.leaves("partOf(0, 0, " + what + "), gone", Due.MISSING, x -> x.partOf(0, 0, asked));
        }
        steady.leaves("partOf(0, 2, 3), never known", Due.INVALID, x -> x.partOf(0, 2, 3));
        steady.leaves("partOf(0, 0, -1), gone", Due.INVALID, x -> x.partOf(0, 0, -1));
        steady.leaves("partOf(2, 0, 0), no view", Due.INVALID, x -> x.partOf(2, 0, 0));
        PartedSums y = due.sentence("Promise 13", "NOT_FOUND if the view does not know it");
        y.writer(0);
        due.is("partOf(1, 0, 0)", y.partOf(1, 0, 0), Due.MISSING);
        y.merge(1, 0);
        due.is("partOf(1, 0, 0), it knows it now", y.partOf(1, 0, 0), 1);
    }

    private void writersInRange() {
        due.sentence("Promise 14", "Returns something of a writer", "`writer`: number of the writer",
            "INVALID_ARGUMENT if an argument is out of range");
        Steady steady = mixedState();
        for (int number : WriterBoundaries.NOBODY) {
            steady.leaves("writerOf(" + number + ", 0)", Due.INVALID, x -> x.writerOf(number, 0));
        }
        steady.leaves("writerOf(3, 0), of three", Due.INVALID, x -> x.writerOf(3, 0));
        steady.leaves("writerOf(7, 4), of three", Due.INVALID, x -> x.writerOf(7, 4));
        for (int what : FAR) {
            steady.leaves("writerOf(1, " + what + ")", Due.INVALID, x -> x.writerOf(1, what));
            steady.leaves("writerOf(0, " + what + "), retired", Due.INVALID, x -> x.writerOf(0, what));
        }
        steady.leaves("writerOf(1, 5)", Due.INVALID, x -> x.writerOf(1, 5));
        steady.leaves("writerOf(0, 5), retired", Due.INVALID, x -> x.writerOf(0, 5));
        PartedSums y = due.sentence("Promise 14", "`writer`: number of the writer");
        for (int what = 0; what < 5; what++) {
            due.is("writerOf(0, " + what + "), nobody", y.writerOf(0, what), Due.INVALID);
        }
        WriterBoundaries.writers(y, 7);
        y.writer(1);
        due.is("writerOf(0, 0), the lowest", y.writerOf(0, 0), 0);
        due.is("writerOf(7, 0), the greatest", y.writerOf(7, 0), 1);
        due.is("writerOf(8, 0)", y.writerOf(8, 0), Due.INVALID);
    }

    private void homesAndVersions() {
        PartedSums x = due.sentence("Promise 14", "0: its home", "1: the version of its part there", "Returns the number");
        x.writer(1);
        due.is("writerOf(0, 0)", x.writerOf(0, 0), 1);
        due.is("writerOf(0, 1), the first", x.writerOf(0, 1), 1);
        x.merge(0, 1);
        x.add(0, 1);
        due.is("writerOf(0, 1), not that of 0", x.writerOf(0, 1), 2);
        x.merge(0, 1);
        x.move(0, 0);
        x.take(0, 1);
        due.is("writerOf(0, 0), moved", x.writerOf(0, 0), 0);
        due.is("writerOf(0, 1), not that of 1", x.writerOf(0, 1), 3);
    }

    private void heirs() {
        PartedSums x = due.sentence("Promise 14", "2: its heir");
        WriterBoundaries.writers(x, 8);
        x.retire(7, 0);
        x.retire(0, 6);
        due.is("writerOf(7, 2), the lowest heir", x.writerOf(7, 2), 0);
        due.is("writerOf(0, 2), of an heir", x.writerOf(0, 2), 6);
        due.is("writerOf(6, 2)", x.writerOf(6, 2), Due.MISSING);
        x.undo();
        due.is("writerOf(0, 2), undone", x.writerOf(0, 2), Due.MISSING);
        PartedSums y = due.sentence("Promise 14", "2: its heir");
        WriterBoundaries.writers(y, 8);
        y.retire(0, 7);
        due.is("writerOf(0, 2), the greatest heir", y.writerOf(0, 2), 7);
    }

    private void viewsThatAreUpToDate() {
        PartedSums x = due.sentence("Promise 14",
            "3: views that know its part with the version that it has in its home, as a set");
        x.writer(0);
        due.is("writerOf(0, 3), its home", x.writerOf(0, 3), 1);
        for (int k = 2; k < 6; k++) {
            x.view(0);
        }
        due.is("writerOf(0, 3), all but 1", x.writerOf(0, 3), 61);
        x.merge(1, 0);
        due.is("writerOf(0, 3), all", x.writerOf(0, 3), 63);
        x.drop(2);
        due.is("writerOf(0, 3), dropped", x.writerOf(0, 3), 59);
        x.move(0, 5);
        x.add(0, 1);
        due.is("writerOf(0, 3), its new home", x.writerOf(0, 3), 32);
    }

    private void viewsWithGraves() {
        PartedSums x = due.sentence("Promise 14", "4: views in which it has a grave, as a set");
        WriterBoundaries.writers(x, 8);
        due.is("writerOf(7, 4), none", x.writerOf(7, 4), 0);
        x.retire(7, 6);
        due.is("writerOf(7, 4), its home", x.writerOf(7, 4), 1);
        due.is("writerOf(6, 4), its heir", x.writerOf(6, 4), 0);
        for (int k = 2; k < 6; k++) {
            x.view(0);
        }
        due.is("writerOf(7, 4), all but 1", x.writerOf(7, 4), 61);
        x.merge(1, 5);
        due.is("writerOf(7, 4), all", x.writerOf(7, 4), 63);
        x.drop(3);
        due.is("writerOf(7, 4), dropped", x.writerOf(7, 4), 55);
    }

    private void writersThatHaveRetired() {
        due.sentence("Promise 14", "NOT_FOUND for 0, 1 and 3 if it has retired, for 2 if it has not");
        Steady steady = mixedState();
        int[] retired = {Due.MISSING, Due.MISSING, 1, Due.MISSING, 1};
        int[] heir = {0, 3, Due.MISSING, 1, 0};
        int[] other = {1, 2, Due.MISSING, 2, 0};
        for (int what = 0; what < 5; what++) {
            int asked = what;
            steady.leaves("writerOf(0, " + what + ")", retired[what], x -> x.writerOf(0, asked));
            steady.leaves("writerOf(1, " + what + ")", heir[what], x -> x.writerOf(1, asked));
            steady.leaves("writerOf(2, " + what + ")", other[what], x -> x.writerOf(2, asked));
        }
    }

    private void lettersInRange() {
        due.sentence("Promise 15", "Returns something of a letter on its way", "Returns the number",
            "INVALID_ARGUMENT if what is out of range or index is below 0");
        Steady steady = mixedState();
        for (int what : FAR) {
            steady.leaves("letterOf(0, " + what + ")", Due.INVALID, x -> x.letterOf(0, what));
            steady.leaves("letterOf(1, " + what + "), none", Due.INVALID, x -> x.letterOf(1, what));
        }
        steady.leaves("letterOf(0, 5)", Due.INVALID, x -> x.letterOf(0, 5));
        steady.leaves("letterOf(8, 5), none", Due.INVALID, x -> x.letterOf(8, 5));
        steady.leaves("letterOf(-1, 5)", Due.INVALID, x -> x.letterOf(-1, 5));
        for (int index : new int[] {-1, -2, -8, -32, Integer.MIN_VALUE}) {
            steady.leaves("letterOf(" + index + ", 0)", Due.INVALID, x -> x.letterOf(index, 0));
        }
        int[] letter = {0, 1, 3, 16, 0};
        for (int what = 0; what < 5; what++) {
            int asked = what;
            steady.leaves("letterOf(0, " + what + ")", letter[what], x -> x.letterOf(0, asked));
        }
    }

    private void lettersInTheirOrder() {
        PartedSums x = due.sentence("Promise 15",
            "`index`: 0 for the one that comes first, of several the one that was posted first, and so on");
        x.writer(0);
        int[] ticks = {5, 9, 5, 1, 99, 1, 5, 9};
        for (int k = 0; k < 8; k++) {
            x.add(0, 1);
            due.is("post(0, 1, " + ticks[k] + ")", x.post(0, 1, ticks[k]), ticks[k]);
        }
        int[] sums = {4, 6, 1, 3, 7, 2, 8, 5};
        for (int k = 0; k < 8; k++) {
            due.is("letterOf(" + k + ", 3)", x.letterOf(k, 3), sums[k]);
            due.is("letterOf(" + k + ", 2)", x.letterOf(k, 2), ticks[sums[k] - 1]);
        }
        x.tick(1);
        x.add(0, 1);
        x.post(0, 1, 4);
        x.add(0, 1);
        x.post(0, 1, 3);
        int[] then = {10, 1, 3, 7, 9, 2, 8, 5};
        for (int k = 0; k < 8; k++) {
            due.is("letterOf(" + k + ", 3), two have come", x.letterOf(k, 3), then[k]);
        }
    }

    private void viewsOfLetters() {
        PartedSums x = due.sentence("Promise 15", "0: the view that it is from",
            "1: the view that it is to, as numbers were when it was posted");
        ViewBoundaries.sixViews(x);
        x.post(5, 0, 3);
        x.post(0, 5, 3);
        due.is("letterOf(0, 0)", x.letterOf(0, 0), 5);
        due.is("letterOf(0, 1)", x.letterOf(0, 1), 0);
        due.is("letterOf(1, 0)", x.letterOf(1, 0), 0);
        due.is("letterOf(1, 1)", x.letterOf(1, 1), 5);
        x.drop(5);
        due.is("letterOf(0, 0), dropped", x.letterOf(0, 0), 5);
        due.is("letterOf(1, 1), dropped", x.letterOf(1, 1), 5);
        x.view(1);
        due.is("letterOf(0, 0), a new one there", x.letterOf(0, 0), 5);
        due.is("letterOf(1, 1), a new one there", x.letterOf(1, 1), 5);
    }

    private void whatLettersTell() {
        PartedSums x = due.sentence("Promise 15", "2: in how many ticks it comes", "3: the sum that it tells");
        x.writer(0);
        x.writer(1);
        x.post(0, 1, 99);
        due.is("letterOf(0, 2), the most", x.letterOf(0, 2), 99);
        due.is("letterOf(0, 3), nothing", x.letterOf(0, 3), 0);
        x.tick(98);
        due.is("letterOf(0, 2), the least", x.letterOf(0, 2), 1);
        x.tick(1);
        due.is("letterOf(0, 2), it has come", x.letterOf(0, 2), Due.MISSING);
        x.add(0, 9);
        x.merge(1, 0);
        x.take(0, 9);
        x.take(1, 9);
        x.merge(1, 0);
        x.post(1, 0, 1);
        due.is("letterOf(0, 3), below 0", x.letterOf(0, 3), -9);
        x.add(1, 20);
        due.is("letterOf(0, 3), as it was posted", x.letterOf(0, 3), -9);
    }

    private void lettersThatWillBeLost() {
        PartedSums x = due.sentence("Promise 15", "4: 1 if it will be lost, otherwise 0");
        x.add(x.writer(0), 5);
        x.view(0);
        x.view(0);
        x.post(0, 2, 1);
        x.post(2, 3, 2);
        x.post(0, 1, 3);
        due.is("drop(2)", x.drop(2), 3);
        int[] lost = {1, 0, 0};
        for (int k = 0; k < 3; k++) {
            due.is("letterOf(" + k + ", 4)", x.letterOf(k, 4), lost[k]);
        }
        x.view(0);
        x.post(0, 2, 1);
        due.is("letterOf(0, 4), to the old one", x.letterOf(0, 4), 1);
        due.is("letterOf(1, 4), to the new one", x.letterOf(1, 4), 0);
        due.is("drop(2), the new one", x.drop(2), 3);
        due.is("letterOf(0, 4)", x.letterOf(0, 4), 1);
        due.is("letterOf(1, 4)", x.letterOf(1, 4), 1);
        due.is("letterOf(2, 4)", x.letterOf(2, 4), 0);
        x.undo();
        due.is("letterOf(0, 4), the old one", x.letterOf(0, 4), 1);
        due.is("letterOf(1, 4), the new one again", x.letterOf(1, 4), 0);
    }

    private void noSoManyLetters() {
        due.sentence("Promise 15", "NOT_FOUND if there are not so many");
        Steady none = new Steady(due, x -> x.add(x.writer(0), 5));
        for (int what = 0; what < 5; what++) {
            int asked = what;
            none.leaves("letterOf(0, " + what + "), none", Due.MISSING, x -> x.letterOf(0, asked));
        }
        PartedSums x = due.sentence("Promise 15", "NOT_FOUND if there are not so many");
        for (int k = 0; k < 8; k++) {
            due.is("letterOf(" + k + ", 0)", x.letterOf(k, 0), Due.MISSING);
            x.post(1, 0, 5);
            due.is("letterOf(" + k + ", 0)", x.letterOf(k, 0), 1);
        }
        for (int index : new int[] {8, 9, 32, Integer.MAX_VALUE}) {
            due.is("letterOf(" + index + ", 0), of eight", x.letterOf(index, 0), Due.MISSING);
        }
        x.tick(5);
        due.is("letterOf(0, 0), all have come", x.letterOf(0, 0), Due.MISSING);
    }

    private void lackingInRange() {
        due.sentence("Promise 16", "Tells what a view lacks of another one", "`view`: number of the view",
            "`other`: number of another view", "Returns the number",
            "INVALID_ARGUMENT if an argument is out of range, or both are the same");
        Steady steady = mixedState();
        for (int number : WriterBoundaries.NOBODY) {
            steady.leaves("lacks(" + number + ", 1, 0)", Due.INVALID, x -> x.lacks(number, 1, 0));
            steady.leaves("lacks(0, " + number + ", 0)", Due.INVALID, x -> x.lacks(0, number, 0));
        }
        for (int view : new int[] {0, 1, 2, 3}) {
            steady.leaves("lacks(" + view + ", " + view + ", 0)", Due.INVALID, x -> x.lacks(view, view, 0));
        }
        steady.leaves("lacks(2, 0, 0), dropped", Due.INVALID, x -> x.lacks(2, 0, 0));
        steady.leaves("lacks(0, 2, 0), dropped", Due.INVALID, x -> x.lacks(0, 2, 0));
        steady.leaves("lacks(4, 0, 0), never made", Due.INVALID, x -> x.lacks(4, 0, 0));
        for (int what : FAR) {
            steady.leaves("lacks(0, 1, " + what + ")", Due.INVALID, x -> x.lacks(0, 1, what));
        }
        steady.leaves("lacks(0, 1, 3)", Due.INVALID, x -> x.lacks(0, 1, 3));
        PartedSums y = due.sentence("Promise 16", "`view`: number of the view", "`other`: number of another view");
        ViewBoundaries.sixViews(y);
        y.add(0, 3);
        due.is("lacks(5, 0, 1), the greatest", y.lacks(5, 0, 1), 3);
        due.is("lacks(0, 5, 1), the lowest", y.lacks(0, 5, 1), 0);
    }

    private void lackedParts() {
        due.sentence("Promise 16", "0: how many parts merge() would tell");
        Steady steady = mixedState();
        steady.leaves("lacks(1, 0, 0), one gone, one newer", 2, x -> x.lacks(1, 0, 0));
        steady.leaves("lacks(0, 1, 0), one new, one stays gone", 1, x -> x.lacks(0, 1, 0));
        PartedSums x = due.sentence("Promise 16", "0: how many parts merge() would tell");
        due.is("lacks(1, 0, 0), nothing known", x.lacks(1, 0, 0), 0);
        WriterBoundaries.writers(x, 8);
        due.is("lacks(1, 0, 0), eight new ones", x.lacks(1, 0, 0), 8);
        due.is("lacks(0, 1, 0), nothing known there", x.lacks(0, 1, 0), 0);
        x.merge(1, 0);
        due.is("lacks(1, 0, 0), the same", x.lacks(1, 0, 0), 0);
        for (int k = 0; k < 7; k++) {
            x.retire(k, 7);
        }
        due.is("lacks(1, 0, 0), seven gone, one newer", x.lacks(1, 0, 0), 8);
        due.is("merge(1, 0)", x.merge(1, 0), 8);
        due.is("lacks(1, 0, 0), nothing", x.lacks(1, 0, 0), 0);
    }

    private void lackedSums() {
        due.sentence("Promise 16", "1: by how much its sum would be greater by merging");
        Steady steady = mixedState();
        steady.leaves("lacks(1, 0, 1), what was taken", -4, x -> x.lacks(1, 0, 1));
        steady.leaves("lacks(0, 1, 1), the new one", 7, x -> x.lacks(0, 1, 1));
        steady.leaves("lacks(3, 1, 1), the new one", 7, x -> x.lacks(3, 1, 1));
        PartedSums x = due.sentence("Promise 16", "1: by how much its sum would be greater by merging");
        due.is("lacks(0, 1, 1), nothing known", x.lacks(0, 1, 1), 0);
        x.add(x.writer(0), 999);
        due.is("lacks(1, 0, 1)", x.lacks(1, 0, 1), 999);
        x.merge(1, 0);
        x.take(0, 999);
        due.is("lacks(1, 0, 1), below 0", x.lacks(1, 0, 1), -999);
        due.is("lacks(0, 1, 1), older ones tell nothing", x.lacks(0, 1, 1), 0);
    }

    private void knowingTheSameThen() {
        PartedSums x = due.sentence("Promise 16", "2: 1 if it would know the same as the other one then, otherwise 0");
        due.is("lacks(0, 1, 2), nothing known", x.lacks(0, 1, 2), 1);
        x.writer(0);
        due.is("lacks(1, 0, 2), all would be told", x.lacks(1, 0, 2), 1);
        due.is("lacks(0, 1, 2), it knows more", x.lacks(0, 1, 2), 0);
        x.merge(1, 0);
        x.add(0, 1);
        due.is("lacks(1, 0, 2), a newer version", x.lacks(1, 0, 2), 1);
        due.is("lacks(0, 1, 2), an older version", x.lacks(0, 1, 2), 0);
        x.writer(1);
        due.is("lacks(1, 0, 2), both know more", x.lacks(1, 0, 2), 0);

        PartedSums y = due.sentence("Promise 16", "2: 1 if it would know the same as the other one then, otherwise 0");
        WriterBoundaries.writers(y, 2);
        y.merge(1, 0);
        y.retire(0, 1);
        due.is("lacks(1, 0, 2), a grave is told", y.lacks(1, 0, 2), 1);
        due.is("lacks(0, 1, 2), a grave is there alone", y.lacks(0, 1, 2), 0);
    }
}
