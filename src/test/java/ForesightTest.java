/** Promises 17 to 23: what would be, what there is in numbers, and what is restored. */
public final class ForesightTest {
    private static final Due due = new Due("ForesightTest");

    public static void main(String[] args) {
        theWhole();
        theSeen();
        theRounds();
        roundsWithGravesAndGaps();
        whatWouldBe();
        theLatest();
        theCounts();
        countsOfMergedParts();
        undoing();
        undoRestoresEverything();
        errorsAreNoChanges();
        due.end();
    }

    private static void theWhole() {
        PartedSums x = due.start("promise 17");
        due.is("whole()", x.whole(), 0);
        x.writer(0);
        x.writer(1);
        x.writer(0);
        x.add(0, 10);
        x.add(1, 5);
        due.is("whole()", x.whole(), 15);
        x.merge(1, 0);
        due.is("whole(), nothing is counted twice", x.whole(), 15);
        x.add(0, 1);
        due.is("whole(), the greater version", x.whole(), 16);
        x.retire(0, 2);
        due.is("whole(), a grave and an old part", x.whole(), 16);
        due.is("viewOf(1, 0), as it was", x.viewOf(1, 0), 15);
        x.drop(1);
        due.is("whole(), a home", x.whole(), 16);
        x.take(1, 5);
        due.is("whole()", x.whole(), 11);

        PartedSums y = due.start("promise 17, below 0");
        y.writer(0);
        y.writer(1);
        y.add(0, 10);
        y.merge(1, 0);
        y.take(0, 10);
        y.take(1, 9);
        due.is("whole()", y.whole(), -9);
    }

    private static void theSeen() {
        PartedSums x = due.start("promise 18");
        x.writer(0);
        x.writer(1);
        x.add(0, 10);
        x.add(1, 5);
        due.is("seen(), none by all", x.seen(), 0);
        x.merge(1, 0);
        due.is("seen()", x.seen(), 10);
        x.add(0, 7);
        due.is("seen(), the least version", x.seen(), 10);
        x.merge(0, 1);
        due.is("seen()", x.seen(), 15);
        x.take(1, 15);
        due.is("seen()", x.seen(), 15);
        x.view(1);
        due.is("seen()", x.seen(), 15);
        x.merge(0, 1);
        due.is("seen(), all have seen what was taken", x.seen(), 0);
        x.merge(1, 0);
        due.is("seen()", x.seen(), 0);
        x.merge(2, 0);
        due.is("seen()", x.seen(), 7);
        x.writer(2);
        due.is("seen(), one is not known by all", x.seen(), 7);

        PartedSums y = due.start("promise 18, below 0");
        y.writer(0);
        y.writer(1);
        y.add(0, 3);
        y.merge(1, 0);
        y.take(1, 2);
        y.merge(0, 1);
        y.view(0);
        y.writer(0);
        y.retire(0, 2);
        due.is("seen(), one part is gone", y.seen(), -2);
    }

    private static void theRounds() {
        PartedSums x = due.start("promise 19");
        due.is("rounds(), nothing known", x.rounds(), 0);
        x.writer(0);
        due.is("rounds(), 0 takes in 1, 1 takes in 0", x.rounds(), 2);
        due.is("undo()", x.undo(), 0);
        x.writer(1);
        due.is("rounds(), 0 takes in 1", x.rounds(), 1);
        x.view(0);
        // 0 <- 1 and 1 <- 2 tell nothing that 2 does not lack; 2 <- 0 is the third.
        due.is("rounds()", x.rounds(), 3);
        due.is("viewOf(2, 3), no merge", x.viewOf(2, 3), 0);
        x.drop(0);
        due.is("rounds(), 1 and 2", x.rounds(), 2);
        x.drop(2);
        due.is("rounds(), one view", x.rounds(), 0);
    }

    private static void roundsWithGravesAndGaps() {
        PartedSums x = due.start("promise 19, graves");
        x.writer(1);
        x.writer(1);
        x.merge(0, 1);
        due.is("rounds()", x.rounds(), 0);
        x.retire(0, 1);
        due.is("rounds()", x.rounds(), 1);

        PartedSums y = due.start("promise 19, gaps");
        y.writer(0);
        y.view(1);
        y.view(1);
        y.view(1);
        y.drop(1);
        y.drop(3);
        // The views 0, 2 and 4: 0 <- 2, 2 <- 4, 4 <- 0 (it learns), 0 <- 2, 2 <- 4 (it learns).
        due.is("rounds()", y.rounds(), 5);
        y.undo();
        // 0, 2, 3 and 4: 4 learns by the 4th merge, 3 by the 7th, 2 by the 10th.
        due.is("rounds(), with 3", y.rounds(), 10);
    }

    private static void whatWouldBe() {
        PartedSums x = due.start("promise 20");
        x.writer(0);
        x.add(0, 5);
        x.post(0, 1, 3);
        x.add(0, 2);
        x.post(0, 1, 5);
        due.is("would(1, 0)", x.would(1, 0), 0);
        due.is("would(1, 2)", x.would(1, 2), 0);
        due.is("would(1, 3)", x.would(1, 3), 5);
        due.is("would(1, 4)", x.would(1, 4), 5);
        due.is("would(1, 5)", x.would(1, 5), 7);
        due.is("would(0, 99)", x.would(0, 99), 7);
        due.is("viewOf(1, 0), no ticks", x.viewOf(1, 0), 0);
        x.tick(2);
        due.is("would(1, 1)", x.would(1, 1), 5);
        due.is("would(1, -1)", x.would(1, -1), Due.INVALID);
        due.is("would(1, 100)", x.would(1, 100), Due.INVALID);
        due.is("would(-1, 1)", x.would(-1, 1), Due.INVALID);
        due.is("would(2, 1)", x.would(2, 1), Due.INVALID);
        x.drop(1);
        due.is("would(1, 1), dropped", x.would(1, 1), Due.INVALID);
        x.view(0);
        x.take(0, 6);
        x.post(0, 1, 9);
        due.is("would(1, 8), lost letters", x.would(1, 8), 7);
        due.is("would(1, 9)", x.would(1, 9), 1);
        due.is("count(4)", x.count(4), 2);
        due.is("count(3)", x.count(3), 3);

        PartedSums y = due.start("promise 20, graves");
        y.writer(0);
        y.writer(0);
        y.add(0, 5);
        y.post(0, 1, 1);
        y.retire(0, 1);
        y.add(1, 1);
        y.post(0, 1, 2);
        due.is("would(1, 1)", y.would(1, 1), 5);
        due.is("would(1, 2)", y.would(1, 2), 6);
    }

    private static void theLatest() {
        PartedSums x = due.start("promise 21");
        due.is("latest(-1)", x.latest(-1), Due.INVALID);
        due.is("latest(2)", x.latest(2), Due.INVALID);
        due.is("latest(0), none lacks", x.latest(0), 0);
        due.is("latest(1), none lacks", x.latest(1), 0);
        x.writer(0);
        x.writer(1);
        due.is("latest(0), both lack one", x.latest(0), 0);
        due.is("latest(1), both lack one", x.latest(1), 1);
        x.writer(0);
        due.is("latest(0)", x.latest(0), 1);
        due.is("latest(1)", x.latest(1), 2);
        x.view(0);
        due.is("latest(0), of two others", x.latest(0), 1);
        due.is("latest(1), of two others", x.latest(1), 4);
        due.is("viewOf(1, 3), no merge", x.viewOf(1, 3), 1);
        x.merge(1, 0);
        due.is("latest(0)", x.latest(0), 0);
        due.is("latest(1)", x.latest(1), 1);
        x.merge(0, 1);
        due.is("latest(0)", x.latest(0), 2);
        due.is("latest(1), twice the one", x.latest(1), 2);
        x.drop(1);
        due.is("drop(1), a home", x.count(0), 3);
        x.move(1, 0);
        x.drop(1);
        due.is("latest(1)", x.latest(1), 1);
        x.move(0, 2);
        x.move(2, 2);
        x.merge(2, 0);
        x.move(1, 2);
        x.drop(0);
        due.is("latest(0), one view", x.latest(0), 2);
        due.is("latest(1), one view", x.latest(1), 0);
    }

    private static void theCounts() {
        PartedSums x = due.start("promise 22");
        due.is("count(-1)", x.count(-1), Due.INVALID);
        due.is("count(11)", x.count(11), Due.INVALID);
        x.writer(0);
        x.writer(0);
        x.writer(0);
        x.retire(0, 1);
        x.view(0);
        x.view(0);
        x.drop(1);
        x.post(0, 2, 2);
        x.post(0, 3, 4);
        x.post(2, 3, 4);
        x.drop(2);
        x.tick(3);
        Due.type(x, "abc");
        long[] counts = {2, 3, 2, 2, 3, 0, 1, 0, 4, 3, 9};
        for (int k = 0; k < counts.length; k++) {
            due.is("count(" + k + ")", x.count(k), counts[k]);
        }
        x.tick(1);
        due.is("count(3)", x.count(3), 0);
        due.is("count(5)", x.count(5), 2);
        due.is("count(6)", x.count(6), 1);
    }

    /** Letters are merging too, as "Merging" tells it of all that a view takes in. */
    private static void countsOfMergedParts() {
        PartedSums x = due.start("promise 22, parts");
        x.writer(0);
        x.writer(0);
        x.merge(1, 0);
        due.is("count(7)", x.count(7), 2);
        x.merge(1, 0);
        due.is("count(7)", x.count(7), 2);
        x.add(0, 1);
        x.post(0, 1, 1);
        due.is("count(7), a letter on its way", x.count(7), 2);
        x.tick(1);
        due.is("count(7), a letter", x.count(7), 3);
        x.retire(0, 1);
        due.is("count(7), retiring is no merging", x.count(7), 3);
        x.merge(1, 0);
        due.is("count(7), one gone, one newer", x.count(7), 5);
        x.undo();
        due.is("count(7), undone", x.count(7), 3);
        x.lacks(1, 0, 0);
        x.whole();
        x.rounds();
        x.latest(0);
        x.would(1, 9);
        due.is("count(7), no merging", x.count(7), 3);
    }

    private static void undoing() {
        PartedSums x = due.start("promise 23");
        due.is("undo(), empty", x.undo(), Due.IMPOSSIBLE);
        x.writer(0);
        for (int k = 1; k <= 6; k++) {
            x.add(0, 1);
        }
        due.is("count(8)", x.count(8), 4);
        for (int k = 1; k <= 4; k++) {
            due.is("undo()", x.undo(), 4 - k);
            due.is("viewOf(0, 0)", x.viewOf(0, 0), 6 - k);
        }
        due.is("undo(), the oldest ones were dropped", x.undo(), Due.IMPOSSIBLE);
        due.is("viewOf(0, 0)", x.viewOf(0, 0), 2);
        due.is("add(0, 10)", x.add(0, 10), 12);
        due.is("add(0, 100)", x.add(0, 100), 112);
        due.is("undo()", x.undo(), 1);
        due.is("add(0, 200)", x.add(0, 200), 212);
        due.is("undo()", x.undo(), 1);
        due.is("undo()", x.undo(), 0);
        due.is("viewOf(0, 0)", x.viewOf(0, 0), 2);
    }

    private static void undoRestoresEverything() {
        PartedSums x = due.start("promise 23, everything");
        x.writer(0);
        x.writer(0);
        x.add(0, 5);
        x.view(0);
        x.post(0, 1, 2);
        x.post(0, 2, 3);
        Due.type(x, "n0");
        due.is("drop(2)", x.drop(2), 2);
        due.is("undo()", x.undo(), 3);
        due.is("letterOf(1, 4), not lost again", x.letterOf(1, 4), 0);
        due.is("viewOf(2, 0)", x.viewOf(2, 0), 5);
        x.drop(2);
        due.is("tick(3)", x.tick(3), 1);
        due.is("count(6)", x.count(6), 1);
        due.is("undo()", x.undo(), 3);
        due.is("count(3)", x.count(3), 2);
        due.is("count(4)", x.count(4), 0);
        due.is("count(5)", x.count(5), 0);
        due.is("count(6)", x.count(6), 0);
        due.is("letterOf(0, 3)", x.letterOf(0, 3), 5);
        due.is("viewOf(1, 0)", x.viewOf(1, 0), 0);
        x.retire(0, 1);
        due.is("undo()", x.undo(), 3);
        due.is("writerOf(0, 2)", x.writerOf(0, 2), Due.MISSING);
        due.is("writerOf(0, 0)", x.writerOf(0, 0), 0);
        due.is("viewOf(0, 4)", x.viewOf(0, 4), 0);
        due.is("partOf(0, 0, 1)", x.partOf(0, 0, 1), 5);
        due.is("partOf(0, 1, 0)", x.partOf(0, 1, 0), 1);
        due.is("count(9), the text stays", x.count(9), 2);
        x.writer(1);
        due.is("count(1)", x.count(1), 3);
        x.undo();
        due.is("count(1)", x.count(1), 2);
        due.is("writer(0), the number is free again", x.writer(0), 2);
    }

    private static void errorsAreNoChanges() {
        PartedSums x = due.start("promise 23, errors");
        x.writer(0);
        x.writer(1);
        long[] errors = {x.writer(9), x.add(0, 0), x.take(0, 5), x.retire(0, 1), x.move(0, 1), x.view(9),
            x.drop(0), x.merge(0, 0), x.post(0, 0, 1), x.tick(0)};
        for (int k = 0; k < errors.length; k++) {
            due.is("is an error: call " + k, errors[k] <= Due.INVALID ? 1 : 0, 1);
        }
        Due.type(x, "a9,1;");
        due.is("play()", x.play(), Due.IMPOSSIBLE);
        due.is("count(8)", x.count(8), 2);
        due.is("undo()", x.undo(), 1);
        due.is("count(1)", x.count(1), 1);
    }
}
