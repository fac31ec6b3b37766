/** The boundary cases of the promises 17 to 23: what would be, what is counted, what is restored. */
final class ForesightBoundaries {
    private static final int[] FAR = {-1, -2, 12, 32, 64, Integer.MAX_VALUE, Integer.MIN_VALUE};

    private final Due due;

    ForesightBoundaries(Due due) {
        this.due = due;
    }

    void test() {
        theWhole();
        theWholeOfOneView();
        theWholeOfAStateRestored();
        theSeen();
        theSeenOfOneView();
        noRounds();
        theRing();
        theLongestRounds();
        wouldInRange();
        ticksThatWouldPass();
        lettersThatWouldCome();
        latestInRange();
        theLowestOfSeveral();
        lacksOfAllTogether();
        droppedViewsAreNoOthers();
        countsInRange();
        countsOfWritersAndViews();
        countsOfLetters();
        countsOfParts();
        countsOfStates();
        nothingToUndo();
        statesThatAreLeft();
        theLatestState();
        changesBehindUndo();
    }

    private Steady mixedState() {
        return new Steady(due, TellBoundaries::mixed);
    }

    private void theWhole() {
        due.sentence("Promise 17",
            "`int whole()`: Returns the sum that all views together know: that of a view that has taken in all of them",
            "Returns the sum");
        mixedState().leaves("whole()", 23, x -> x.whole());
        PartedSums x = due.sentence("Promise 17", "Returns the sum");
        due.is("whole(), nothing known", x.whole(), 0);
        for (int k = 2; k < 6; k++) {
            x.view(0);
        }
        for (int k = 0; k < 8; k++) {
            x.add(x.writer(k % 6), 100 + k);
        }
        due.is("whole(), eight writers in six views", x.whole(), 828);
        for (int k = 1; k < 6; k++) {
            x.merge(k, k - 1);
        }
        due.is("whole(), no part counts twice", x.whole(), 828);
        x.retire(0, 6);
        due.is("whole(), gone parts count no more", x.whole(), 828);
        x.drop(4);
        due.is("whole(), 4 is a home", x.whole(), 828);

        PartedSums y = due.sentence("Promise 17", "Returns the sum");
        y.writer(0);
        y.writer(1);
        y.add(0, 9);
        y.merge(1, 0);
        y.take(0, 9);
        y.take(1, 9);
        due.is("whole(), below 0", y.whole(), -9);
    }

    private void theWholeOfOneView() {
        PartedSums x = due.sentence("Promise 17", "that of a view that has taken in all of them");
        x.drop(0);
        due.is("whole(), nothing known", x.whole(), 0);
        x.add(x.writer(1), 6);
        due.is("whole(), one view", x.whole(), 6);
        x.view(1);
        x.add(0, 1);
        x.move(0, 0);
        due.is("whole(), 0 knows less", x.whole(), 7);
        x.post(1, 0, 1);
        x.take(0, 7);
        due.is("whole(), letters do not count", x.whole(), 0);
    }

    private void theWholeOfAStateRestored() {
        PartedSums x = due.sentence("Promise 17", "Returns the sum");
        WriterBoundaries.writers(x, 2);
        x.add(0, 5);
        x.add(0, 5);
        x.retire(0, 1);
        due.is("whole(), retired", x.whole(), 10);
        x.undo();
        due.is("whole(), not retired", x.whole(), 10);
        due.is("lacks(1, 0, 1)", x.lacks(1, 0, 1), 10);
        x.undo();
        due.is("whole(), an older version", x.whole(), 5);
        x.add(1, 1);
        due.is("whole(), another newer one", x.whole(), 6);
        x.undo();
        due.is("whole(), the older ones", x.whole(), 5);
    }

    private void theSeen() {
        due.sentence("Promise 18", "the sum over all writers whose parts all views know",
            "of the amount added less the amount taken, of the part with the least version", "Returns the sum");
        mixedState().leaves("seen(), 3 and 1 know it as it came", 0, x -> x.seen());
        PartedSums x = due.sentence("Promise 18", "of the part with the least version");
        due.is("seen(), no writers", x.seen(), 0);
        x.writer(0);
        x.add(0, 10);
        for (int k = 2; k < 6; k++) {
            x.view(0);
        }
        due.is("seen(), 1 does not know it", x.seen(), 0);
        x.merge(1, 0);
        due.is("seen(), all six know it", x.seen(), 10);
        x.take(0, 3);
        due.is("seen(), one knows a newer version", x.seen(), 10);
        for (int k = 1; k < 5; k++) {
            x.merge(k, 0);
            due.is("seen(), 5 knows the least version", x.seen(), 10);
        }
        x.merge(5, 0);
        due.is("seen(), all know the newer version", x.seen(), 7);
        x.writer(5);
        due.is("seen(), a part that one view knows", x.seen(), 7);
    }

    private void theSeenOfOneView() {
        PartedSums x = due.sentence("Promise 18", "the sum over all writers whose parts all views know");
        x.drop(1);
        due.is("seen(), nothing known", x.seen(), 0);
        WriterBoundaries.writers(x, 8);
        for (int k = 0; k < 8; k++) {
            x.add(k, 1 << k);
        }
        due.is("seen(), one view has seen all it knows", x.seen(), 255);
        x.view(0);
        x.retire(7, 6);
        due.is("seen(), one is gone, its heir's part is newer there", x.seen(), 127);
        x.merge(1, 0);
        due.is("seen(), all have seen the heir's", x.seen(), 255);
    }

    private void noRounds() {
        PartedSums x = due.sentence("Promise 19", "Returns how many merges, 0 if they agree now");
        due.is("rounds(), nothing known", x.rounds(), 0);
        x.writer(0);
        x.merge(1, 0);
        due.is("rounds(), the same known", x.rounds(), 0);
        for (int k = 2; k < 6; k++) {
            x.view(0);
        }
        due.is("rounds(), six that agree", x.rounds(), 0);
        x.writer(0);
        x.drop(1);
        x.drop(2);
        x.drop(3);
        x.drop(4);
        due.is("rounds(), 0 and 5 do not", x.rounds(), 2);
        x.drop(5);
        due.is("rounds(), one view", x.rounds(), 0);
        mixedState().leaves("rounds()", 5, y -> y.rounds());
    }

    private void theRing() {
        PartedSums x = due.sentence("Promise 19",
            "if each view in turn (0, 1 and so on, and from the first one again) takes in "
            + "what the next one knows (the last one of the first one), and merges go on until all agree");
        x.writer(1);
        due.is("rounds(), 0 takes in 1", x.rounds(), 1);
        x.writer(0);
        due.is("rounds(), then 1 takes in 0", x.rounds(), 2);
        PartedSums y = due.sentence("Promise 19", "(the last one of the first one)");
        y.view(0);
        y.writer(0);
        due.is("rounds(), 2 takes in 0, from the first again, 1 takes in 2", y.rounds(), 5);
        PartedSums z = due.sentence("Promise 19", "merges go on until all agree");
        z.view(0);
        z.view(0);
        z.drop(2);
        z.writer(3);
        due.is("rounds(), 0 takes in 1, 1 takes in 3, 3 takes in 0, 0 takes in 1", z.rounds(), 4);
    }

    private void theLongestRounds() {
        // What 0 alone knows comes to 5 by the 6th merge, and with five more each time to the view ahead.
        PartedSums x = due.sentence("Promise 19",
            "`int rounds()`: Tells how many merges it takes until all views know the same");
        for (int k = 2; k < 6; k++) {
            x.view(0);
        }
        x.writer(0);
        due.is("rounds(), 0 alone knows it", x.rounds(), 26);
        x.undo();
        x.writer(1);
        due.is("rounds(), 1 alone knows it: 0 at once, then as before, 2 the last", x.rounds(), 21);
        x.undo();
        x.writer(5);
        due.is("rounds(), 5 alone knows it: 4 by the 5th, 3 by the 10th .. 0 by the 25th", x.rounds(), 25);
    }

    private void wouldInRange() {
        due.sentence("Promise 20",
            "`view`: number of the view", "INVALID_ARGUMENT if an argument is out of range", "Returns the sum");
        Steady steady = mixedState();
        for (int view : WriterBoundaries.NOBODY) {
            steady.leaves("would(" + view + ", 1)", Due.INVALID, x -> x.would(view, 1));
        }
        steady.leaves("would(2, 1), dropped", Due.INVALID, x -> x.would(2, 1));
        steady.leaves("would(4, 1), never made", Due.INVALID, x -> x.would(4, 1));
        for (int ticks : ViewBoundaries.TICKS_OUT) {
            steady.leaves("would(0, " + ticks + ")", Due.INVALID, x -> x.would(0, ticks));
        }
        steady.leaves("would(1, 2)", 27, x -> x.would(1, 2));
        steady.leaves("would(1, 3), the letter comes", 23, x -> x.would(1, 3));
        PartedSums y = due.sentence("Promise 20", "`view`: number of the view");
        ViewBoundaries.sixViews(y);
        due.is("would(5, 0), the greatest", y.would(5, 0), 5);
        due.is("would(6, 0), behind it", y.would(6, 0), Due.INVALID);
    }

    private void ticksThatWouldPass() {
        PartedSums x = due.sentence("Promise 20", "`ticks`: 0 to 99");
        x.writer(0);
        x.add(0, 5);
        x.post(0, 1, 1);
        x.add(0, 5);
        x.post(0, 1, 99);
        due.is("would(1, 0), now", x.would(1, 0), 0);
        due.is("would(1, 1)", x.would(1, 1), 5);
        due.is("would(1, 98)", x.would(1, 98), 5);
        due.is("would(1, 99), the most", x.would(1, 99), 10);
        due.is("would(1, 100)", x.would(1, 100), Due.INVALID);
        due.is("would(1, -1)", x.would(1, -1), Due.INVALID);
        x.tick(1);
        due.is("would(1, 0), one has come", x.would(1, 0), 5);
        due.is("would(1, 97)", x.would(1, 97), 5);
        due.is("would(1, 98)", x.would(1, 98), 10);
        x.tick(98);
        due.is("would(1, 0), both have come", x.would(1, 0), 10);

        PartedSums y = due.sentence("Promise 20", "`ticks`: 0 to 99");
        y.add(y.writer(0), 5);
        ViewBoundaries.late(y);
        y.post(0, 1, 19);
        y.post(1, 0, 20);
        due.is("would(1, 18)", y.would(1, 18), 0);
        due.is("would(1, 19), the last time", y.would(1, 19), 5);
        due.is("would(1, 99), no limit is named", y.would(1, 99), 5);
    }

    private void lettersThatWouldCome() {
        PartedSums x = due.sentence("Promise 20",
            "Tells what a view's sum would be behind some ticks, if nothing else is done");
        x.add(x.writer(0), 5);
        x.view(1);
        x.post(0, 1, 2);
        x.post(1, 2, 3);
        due.is("would(2, 9), 1 knew nothing when it posted", x.would(2, 9), 0);
        due.is("would(1, 9)", x.would(1, 9), 5);
        x.post(0, 2, 3);
        due.is("would(2, 3)", x.would(2, 3), 5);
        x.drop(2);
        x.view(1);
        x.post(0, 2, 4);
        due.is("would(2, 3), a lost one", x.would(2, 3), 0);
        due.is("would(2, 4)", x.would(2, 4), 5);
        x.take(0, 5);
        due.is("would(0, 99), no letter to it", x.would(0, 99), 0);
        x.merge(1, 0);
        due.is("would(1, 99), it knows a newer one", x.would(1, 99), 0);
        due.is("count(4), no ticks", x.count(4), 0);

        PartedSums y = due.sentence("Promise 20",
            "Tells what a view's sum would be behind some ticks, if nothing else is done");
        y.writer(0);
        for (int k = 1; k <= 8; k++) {
            y.add(0, 1);
            y.post(0, 1, k);
        }
        for (int k = 0; k <= 8; k++) {
            due.is("would(1, " + k + "), of eight letters", y.would(1, k), k);
        }
    }

    private void latestInRange() {
        due.sentence("Promise 21", "Finds the view that lacks most parts of all others together (as lacks() tells them)",
            "Returns the number", "INVALID_ARGUMENT if what is out of range");
        Steady steady = mixedState();
        for (int what : FAR) {
            steady.leaves("latest(" + what + ")", Due.INVALID, x -> x.latest(what));
        }
        steady.leaves("latest(2)", Due.INVALID, x -> x.latest(2));
        // 0 lacks one part of 1; 1 lacks two of 0; 3 lacks two of 0, and one of 1.
        steady.leaves("latest(0)", 3, x -> x.latest(0));
        steady.leaves("latest(1)", 3, x -> x.latest(1));
    }

    private void theLowestOfSeveral() {
        PartedSums x = due.sentence("Promise 21", "0: the view, of several the lowest", "1: how many");
        due.is("latest(0), none lacks any", x.latest(0), 0);
        due.is("latest(1), none lacks any", x.latest(1), 0);
        for (int k = 2; k < 6; k++) {
            x.view(0);
        }
        x.writer(2);
        due.is("latest(0), all but 2 lack one", x.latest(0), 0);
        due.is("latest(1)", x.latest(1), 1);
        x.merge(0, 2);
        due.is("latest(0), all but 0 and 2 lack two", x.latest(0), 1);
        due.is("latest(1)", x.latest(1), 2);
        x.drop(1);
        due.is("latest(0), 1 is dropped", x.latest(0), 3);
        x.drop(3);
        x.merge(4, 2);
        due.is("latest(0), 5 alone lacks three", x.latest(0), 5);
        due.is("latest(1)", x.latest(1), 3);
        x.drop(5);
        x.drop(4);
        x.drop(0);
        due.is("latest(0), one view", x.latest(0), 2);
        due.is("latest(1), one view", x.latest(1), 0);
    }

    private void lacksOfAllTogether() {
        PartedSums x = due.sentence("Promise 21",
            "Finds the view that lacks most parts of all others together (as lacks() tells them)");
        WriterBoundaries.writers(x, 8);
        x.view(0);
        x.view(0);
        x.view(0);
        x.view(0);
        due.is("latest(0)", x.latest(0), 1);
        due.is("latest(1), eight parts of five views", x.latest(1), 40);
        x.merge(1, 0);
        x.retire(0, 1);
        due.is("latest(0), gone and newer ones", x.latest(0), 1);
        due.is("latest(1), gone and newer ones", x.latest(1), 2);
    }

    private void droppedViewsAreNoOthers() {
        PartedSums x = due.sentence("Promise 21",
            "Finds the view that lacks most parts of all others together (as lacks() tells them)");
        WriterBoundaries.writers(x, 3);
        x.view(0);
        x.view(0);
        due.is("latest(1), of 0, 2 and 3", x.latest(1), 9);
        x.drop(2);
        due.is("latest(0)", x.latest(0), 1);
        due.is("latest(1), of 0 and 3", x.latest(1), 6);
        x.drop(3);
        due.is("latest(1), of 0", x.latest(1), 3);
        x.undo();
        due.is("latest(1), of 0 and 3 again", x.latest(1), 6);
        x.view(1);
        due.is("latest(1), of 0 and 3, 2 knows nothing now", x.latest(1), 6);
    }

    private void countsInRange() {
        due.sentence("Promise 22", "Returns a number", "INVALID_ARGUMENT if what is out of range");
        Steady steady = mixedState();
        for (int what : FAR) {
            steady.leaves("count(" + what + ")", Due.INVALID, x -> x.count(what));
        }
        steady.leaves("count(11)", Due.INVALID, x -> x.count(11));
        int[] counts = {3, 3, 2, 1, 0, 0, 0, 2, 4, 6, 11};
        for (int what = 0; what <= 10; what++) {
            int asked = what;
            steady.leaves("count(" + what + ")", counts[what], x -> x.count(asked));
        }
    }

    private void countsOfWritersAndViews() {
        PartedSums x = due.sentence("Promise 22", "0: views", "1: writers so far", "2: writers that have not retired",
            "10: views, as a set", "Returns the number");
        for (int k = 2; k < 6; k++) {
            due.is("count(0)", x.count(0), k);
            due.is("count(10)", x.count(10), (1 << k) - 1);
            x.view(0);
        }
        due.is("count(0), the most", x.count(0), 6);
        due.is("count(10), the most", x.count(10), 63);
        for (int k = 0; k < 8; k++) {
            due.is("count(1)", x.count(1), k);
            due.is("count(2)", x.count(2), k);
            x.writer(5);
        }
        for (int k = 0; k < 7; k++) {
            x.retire(k, k + 1);
        }
        due.is("count(1), the most", x.count(1), 8);
        due.is("count(2), the last one", x.count(2), 1);
        for (int k = 0; k < 5; k++) {
            x.drop(k);
        }
        due.is("count(0), the least", x.count(0), 1);
        due.is("count(10), the greatest alone", x.count(10), 32);
    }

    private void countsOfLetters() {
        PartedSums x = due.sentence("Promise 22", "3: letters on their way", "4: the time",
            "5: letters that were taken in so far", "6: letters that were lost so far");
        x.view(0);
        for (int k = 0; k < 8; k++) {
            due.is("count(3)", x.count(3), k);
            x.post(0, 1 + k % 2, 1 + k / 4);
        }
        due.is("count(3), the most", x.count(3), 8);
        x.drop(2);
        due.is("count(3), lost ones are on their way", x.count(3), 8);
        due.is("count(6), not lost so far", x.count(6), 0);
        int[][] counts = {{4, 1, 2, 2}, {0, 2, 4, 4}, {0, 3, 4, 4}};
        for (int k = 0; k < 3; k++) {
            x.tick(1);
            for (int what = 3; what <= 6; what++) {
                due.is("count(" + what + ")", x.count(what), counts[k][what - 3]);
            }
        }
        ViewBoundaries.late(x);
        x.tick(16);
        due.is("count(4), the last time", x.count(4), 1999);
    }

    private void countsOfParts() {
        PartedSums x = due.sentence("Promise 22", "7: parts that were other ones by merging so far");
        due.is("count(7)", x.count(7), 0);
        WriterBoundaries.writers(x, 8);
        x.view(0);
        due.is("count(7), a copy is no merging", x.count(7), 0);
        x.merge(1, 0);
        due.is("count(7), the most at once", x.count(7), 8);
        x.merge(1, 0);
        due.is("count(7), none", x.count(7), 8);
        x.add(0, 1);
        x.post(0, 1, 1);
        x.tick(1);
        due.is("count(7), a letter", x.count(7), 9);
        x.merge(1, 1);
        due.is("count(7), an error", x.count(7), 9);
    }

    private void countsOfStates() {
        PartedSums x = due.sentence("Promise 22", "8: states in the history", "9: the length of the text");
        for (int k = 0; k <= 6; k++) {
            due.is("count(8)", x.count(8), Math.min(k, 4));
            x.writer(0);
        }
        for (int k = 3; k >= 0; k--) {
            x.undo();
            due.is("count(8)", x.count(8), k);
        }
        for (int k = 0; k <= 62; k++) {
            due.is("count(9)", x.count(9), Math.min(k, 60));
            x.type(';');
        }
        x.clearText();
        due.is("count(9), empty", x.count(9), 0);
    }

    private void nothingToUndo() {
        due.sentence("Promise 23", "NOT_POSSIBLE if it is empty");
        new Steady(due, x -> { }).leaves("undo(), a new object", Due.IMPOSSIBLE, x -> x.undo());
        Steady undone = new Steady(due, x -> {
            TellBoundaries.mixed(x);
            for (int k = 0; k < 4; k++) {
                x.undo();
            }
        });
        undone.leaves("undo(), the fifth", Due.IMPOSSIBLE, x -> x.undo());
        Steady refused = new Steady(due, x -> {
            x.writer(2);
            x.play();
            x.undo();
            x.view(6);
        });
        refused.leaves("undo(), errors record nothing", Due.IMPOSSIBLE, x -> x.undo());
    }

    private void statesThatAreLeft() {
        PartedSums x = due.sentence("Promise 23", "Returns the number of states that are left in the history");
        x.writer(0);
        due.is("undo(), of one", x.undo(), 0);
        due.is("undo(), of none", x.undo(), Due.IMPOSSIBLE);
        x.writer(0);
        for (int k = 0; k < 10; k++) {
            x.add(0, 1);
        }
        for (int k = 3; k >= 0; k--) {
            due.is("undo(), of four", x.undo(), k);
        }
        due.is("undo(), of none", x.undo(), Due.IMPOSSIBLE);
        due.is("viewOf(0, 0), four of ten undone", x.viewOf(0, 0), 6);
    }

    private void theLatestState() {
        PartedSums x = due.sentence("Promise 23", "Restores the latest state of the history, which is removed from it");
        x.writer(0);
        x.add(0, 1);
        x.add(0, 2);
        due.is("undo()", x.undo(), 2);
        due.is("viewOf(0, 0), behind the first", x.viewOf(0, 0), 1);
        due.is("undo(), it is no change", x.undo(), 1);
        due.is("viewOf(0, 0), behind none", x.viewOf(0, 0), 0);
        x.add(0, 4);
        due.is("undo(), the one before it", x.undo(), 1);
        due.is("viewOf(0, 0)", x.viewOf(0, 0), 0);
        due.is("undo()", x.undo(), 0);
        due.is("count(1), no writer", x.count(1), 0);
        due.is("writer(1), the number comes again", x.writer(1), 0);
    }

    private void changesBehindUndo() {
        PartedSums x = due.sentence("Promise 23", "Restores the latest state of the history, which is removed from it");
        x.writer(0);
        Due.type(x, "a0,9;k1;");
        for (int k = 0; k < 3; k++) {
            x.add(0, 1);
        }
        for (int k = 0; k < 12; k++) {
            due.is("undo()", x.undo(), 3);
            due.is("viewOf(0, 0), round " + k, x.viewOf(0, 0), 2 + k);
            due.is("add(0, 100)", x.add(0, 100), 102 + k);
            x.fault(0);
            x.rounds();
            due.is("play()", x.play(), 2);
            due.is("add(0, 0)", x.add(0, 0), Due.INVALID);
            due.is("undo()", x.undo(), 3);
            due.is("viewOf(0, 0), behind one", x.viewOf(0, 0), 102 + k);
            due.is("undo()", x.undo(), 2);
            due.is("viewOf(0, 0), behind none", x.viewOf(0, 0), 2 + k);
            due.is("count(4)", x.count(4), 0);
            due.is("undo()", x.undo(), 1);
            due.is("viewOf(0, 0), one earlier", x.viewOf(0, 0), 1 + k);
            x.add(0, 1);
            x.add(0, 1);
            x.add(0, 1);
        }
    }
}
