/** Promises 1 and 7 to 11: views are made, dropped and merged, letters are posted and come. */
public final class ViewsTest {
    private static final Due due = new Due("ViewsTest");

    public static void main(String[] args) {
        aNewObject();
        viewsAreMade();
        viewsAreDropped();
        viewsMerge();
        gravesMerge();
        lettersArePosted();
        ticksPass();
        lettersComeInTheirOrder();
        lettersToDroppedViews();
        lettersTellWhatWasKnown();
        theTimeEnds();
        due.end();
    }

    private static void aNewObject() {
        PartedSums x = due.start("promise 1");
        long[] counts = {2, 0, 0, 0, 0, 0, 0, 0, 0, 0, 3};
        for (int k = 0; k < counts.length; k++) {
            due.is("count(" + k + ")", x.count(k), counts[k]);
        }
        for (int k = 0; k < 7; k++) {
            due.is("viewOf(0, " + k + ")", x.viewOf(0, k), 0);
            due.is("viewOf(1, " + k + ")", x.viewOf(1, k), 0);
        }
        due.is("viewOf(0, 7)", x.viewOf(0, 7), 3);
        due.is("writerOf(0, 0)", x.writerOf(0, 0), Due.INVALID);
        due.is("undo()", x.undo(), Due.IMPOSSIBLE);
    }

    private static void viewsAreMade() {
        PartedSums x = due.start("promise 7");
        due.is("view(-1)", x.view(-1), Due.INVALID);
        due.is("view(2)", x.view(2), Due.INVALID);
        due.is("view(6)", x.view(6), Due.INVALID);
        x.writer(0);
        x.writer(0);
        x.add(0, 9);
        x.retire(1, 0);
        due.is("view(0)", x.view(0), 2);
        due.is("viewOf(2, 0)", x.viewOf(2, 0), 9);
        due.is("viewOf(2, 4)", x.viewOf(2, 4), 1);
        due.is("viewOf(2, 5)", x.viewOf(2, 5), 0);
        due.is("viewOf(2, 6)", x.viewOf(2, 6), 1);
        due.is("partOf(2, 0, 0)", x.partOf(2, 0, 0), 3);
        x.add(0, 1);
        due.is("viewOf(2, 0), a copy", x.viewOf(2, 0), 9);
        due.is("view(2)", x.view(2), 3);
        due.is("view(1)", x.view(1), 4);
        due.is("viewOf(4, 3)", x.viewOf(4, 3), 0);
        due.is("view(4)", x.view(4), 5);
        due.is("view(0), the seventh", x.view(0), Due.LIMIT);
        due.is("view(6), the seventh", x.view(6), Due.INVALID);
        due.is("drop(3)", x.drop(3), 5);
        due.is("drop(1)", x.drop(1), 4);
        due.is("view(1), dropped", x.view(1), Due.INVALID);
        due.is("view(0), the lowest free", x.view(0), 1);
        due.is("view(0), the next free", x.view(0), 3);
    }

    private static void viewsAreDropped() {
        PartedSums x = due.start("promise 8");
        due.is("drop(-1)", x.drop(-1), Due.INVALID);
        due.is("drop(2)", x.drop(2), Due.INVALID);
        x.writer(0);
        x.writer(0);
        due.is("drop(0), a home", x.drop(0), Due.IMPOSSIBLE);
        x.merge(1, 0);
        x.move(0, 1);
        due.is("drop(0), a home still", x.drop(0), Due.IMPOSSIBLE);
        x.move(1, 1);
        due.is("drop(0)", x.drop(0), 1);
        due.is("drop(0) again", x.drop(0), Due.INVALID);
        due.is("drop(1), a home and the only one", x.drop(1), Due.IMPOSSIBLE);
        due.is("count(10)", x.count(10), 2);
        due.is("add(0, 4)", x.add(0, 4), 4);

        PartedSums y = due.start("promise 8, the only one");
        due.is("drop(1)", y.drop(1), 1);
        due.is("drop(0), the only one", y.drop(0), Due.IMPOSSIBLE);
        due.is("view(0)", y.view(0), 1);
        due.is("drop(0)", y.drop(0), 1);
        due.is("count(0)", y.count(0), 1);

        PartedSums z = due.start("promise 8, a retired writer");
        z.writer(0);
        z.writer(0);
        z.retire(0, 1);
        z.merge(1, 0);
        z.move(1, 1);
        due.is("drop(0), home of a retired one", z.drop(0), 1);
        due.is("writerOf(0, 4)", z.writerOf(0, 4), 2);
    }

    private static void viewsMerge() {
        PartedSums x = due.start("promise 9");
        x.writer(0);
        x.writer(0);
        x.writer(1);
        x.add(0, 1);
        x.add(1, 10);
        x.add(2, 100);
        due.is("merge(0, 0)", x.merge(0, 0), Due.INVALID);
        due.is("merge(0, 2)", x.merge(0, 2), Due.INVALID);
        due.is("merge(2, 0)", x.merge(2, 0), Due.INVALID);
        due.is("merge(-1, 0)", x.merge(-1, 0), Due.INVALID);
        due.is("merge(0, -1)", x.merge(0, -1), Due.INVALID);
        due.is("merge(1, 0)", x.merge(1, 0), 2);
        due.is("viewOf(1, 0)", x.viewOf(1, 0), 111);
        due.is("viewOf(0, 0), as it was", x.viewOf(0, 0), 11);
        x.take(0, 1);
        due.is("merge(0, 1), an older part there", x.merge(0, 1), 1);
        due.is("viewOf(0, 0)", x.viewOf(0, 0), 110);
        due.is("partOf(0, 0, 0)", x.partOf(0, 0, 0), 3);
        due.is("merge(1, 0), a newer version", x.merge(1, 0), 1);
        due.is("partOf(1, 0, 2)", x.partOf(1, 0, 2), 1);
        due.is("count(8)", x.count(8), 4);
        due.is("merge(1, 0), nothing new", x.merge(1, 0), 0);
        due.is("undo(), a change still", x.undo(), 3);
        due.is("viewOf(1, 0)", x.viewOf(1, 0), 110);
    }

    private static void gravesMerge() {
        PartedSums x = due.start("promise 9, graves");
        x.writer(0);
        x.writer(0);
        x.add(0, 40);
        x.view(0);
        x.retire(0, 1);
        due.is("merge(1, 2), the old part comes", x.merge(1, 2), 2);
        due.is("merge(1, 0), one gone, one newer", x.merge(1, 0), 2);
        due.is("viewOf(1, 6)", x.viewOf(1, 6), 2);
        due.is("viewOf(1, 0)", x.viewOf(1, 0), 40);
        due.is("merge(1, 2), it stays gone", x.merge(1, 2), 0);
        due.is("merge(0, 2)", x.merge(0, 2), 0);
        due.is("viewOf(0, 6)", x.viewOf(0, 6), 2);
        due.is("merge(2, 1)", x.merge(2, 1), 2);
        due.is("viewOf(2, 7)", x.viewOf(2, 7), 7);

        PartedSums y = due.start("promise 9, a grave alone");
        y.writer(0);
        y.writer(0);
        y.retire(0, 1);
        y.view(1);
        due.is("merge(1, 0), only the heir's part is new", y.merge(1, 0), 1);
        due.is("viewOf(1, 4)", y.viewOf(1, 4), 1);
    }

    private static void lettersArePosted() {
        PartedSums x = due.start("promise 10");
        due.is("post(0, 0, 1)", x.post(0, 0, 1), Due.INVALID);
        due.is("post(0, 2, 1)", x.post(0, 2, 1), Due.INVALID);
        due.is("post(2, 0, 1)", x.post(2, 0, 1), Due.INVALID);
        due.is("post(-1, 0, 1)", x.post(-1, 0, 1), Due.INVALID);
        due.is("post(0, 1, 0)", x.post(0, 1, 0), Due.INVALID);
        due.is("post(0, 1, 100)", x.post(0, 1, 100), Due.INVALID);
        due.is("post(0, 1, 99)", x.post(0, 1, 99), 99);
        x.tick(7);
        due.is("post(1, 0, 1)", x.post(1, 0, 1), 8);
        for (int k = 0; k < 6; k++) {
            due.is("post(0, 1, 50)", x.post(0, 1, 50), 57);
        }
        due.is("post(0, 1, 1), the ninth", x.post(0, 1, 1), Due.LIMIT);
        due.is("post(0, 1, 0), the ninth", x.post(0, 1, 0), Due.INVALID);
        due.is("tick(1)", x.tick(1), 1);
        due.is("post(0, 1, 1), one has come", x.post(0, 1, 1), 9);
    }

    private static void ticksPass() {
        PartedSums x = due.start("promise 11");
        due.is("tick(0)", x.tick(0), Due.INVALID);
        due.is("tick(-1)", x.tick(-1), Due.INVALID);
        due.is("tick(100)", x.tick(100), Due.INVALID);
        x.writer(0);
        x.add(0, 5);
        x.post(0, 1, 2);
        x.post(0, 1, 4);
        due.is("tick(1)", x.tick(1), 0);
        due.is("viewOf(1, 0)", x.viewOf(1, 0), 0);
        due.is("tick(1)", x.tick(1), 1);
        due.is("viewOf(1, 0)", x.viewOf(1, 0), 5);
        due.is("count(4)", x.count(4), 2);
        due.is("tick(99)", x.tick(99), 1);
        due.is("count(4)", x.count(4), 101);
        due.is("count(3)", x.count(3), 0);
    }

    private static void lettersComeInTheirOrder() {
        PartedSums x = due.start("promise 11, the order");
        x.writer(0);
        x.writer(0);
        x.add(0, 1);
        x.post(0, 1, 3);
        x.retire(0, 1);
        x.post(0, 1, 3);
        x.post(0, 1, 2);
        // The grave comes first: the old part, posted first, comes too late.
        due.is("tick(2)", x.tick(2), 1);
        due.is("count(7)", x.count(7), 1);
        due.is("tick(1)", x.tick(1), 2);
        due.is("count(7)", x.count(7), 1);
        due.is("viewOf(1, 6)", x.viewOf(1, 6), 2);

        PartedSums y = due.start("promise 11, posted first, first");
        y.writer(0);
        y.writer(0);
        y.add(0, 1);
        y.post(0, 1, 3);
        y.retire(0, 1);
        y.post(0, 1, 3);
        // The old parts come new first (two), then one is gone and one newer (two).
        due.is("tick(5)", y.tick(5), 2);
        due.is("count(7)", y.count(7), 4);

        PartedSums z = due.start("promise 11, later posted, earlier there");
        z.writer(0);
        z.writer(0);
        z.add(0, 1);
        z.post(0, 1, 3);
        z.tick(1);
        z.retire(0, 1);
        z.post(0, 1, 1);
        due.is("tick(5)", z.tick(5), 2);
        due.is("count(7)", z.count(7), 1);
    }

    private static void lettersToDroppedViews() {
        PartedSums x = due.start("promise 11, lost letters");
        x.writer(0);
        x.add(0, 3);
        x.view(1);
        x.post(0, 2, 1);
        x.post(2, 1, 2);
        x.drop(2);
        due.is("view(1)", x.view(1), 2);
        x.post(0, 2, 2);
        due.is("count(3), lost ones are on their way", x.count(3), 3);
        due.is("tick(1)", x.tick(1), 0);
        due.is("count(6)", x.count(6), 1);
        due.is("count(5)", x.count(5), 0);
        due.is("viewOf(2, 3)", x.viewOf(2, 3), 0);
        due.is("tick(1), a letter from it comes", x.tick(1), 2);
        due.is("viewOf(2, 0)", x.viewOf(2, 0), 3);
        due.is("count(6)", x.count(6), 1);
        due.is("count(5)", x.count(5), 2);

        PartedSums y = due.start("promise 11, slots are used again");
        y.writer(0);
        y.add(0, 3);
        y.post(0, 1, 1);
        y.drop(1);
        y.tick(1);
        y.view(0);
        y.post(0, 1, 1);
        due.is("letterOf(0, 4)", y.letterOf(0, 4), 0);
        due.is("tick(1)", y.tick(1), 1);
    }

    private static void lettersTellWhatWasKnown() {
        PartedSums x = due.start("promise 11, what was known");
        x.writer(0);
        x.writer(0);
        x.add(0, 3);
        x.post(0, 1, 5);
        x.add(0, 4);
        x.post(0, 1, 9);
        x.retire(1, 0);
        due.is("tick(5)", x.tick(5), 1);
        due.is("viewOf(1, 0)", x.viewOf(1, 0), 3);
        due.is("viewOf(1, 4)", x.viewOf(1, 4), 0);
        due.is("viewOf(1, 6)", x.viewOf(1, 6), 3);
        due.is("tick(4)", x.tick(4), 1);
        due.is("viewOf(1, 0)", x.viewOf(1, 0), 7);
        due.is("partOf(1, 0, 0)", x.partOf(1, 0, 0), 3);
        due.is("partOf(0, 0, 0)", x.partOf(0, 0, 0), 4);
    }

    private static void theTimeEnds() {
        PartedSums x = due.start("promise 11, the last time");
        for (int k = 0; k < 20; k++) {
            due.is("tick(99)", x.tick(99), 0);
        }
        due.is("count(4)", x.count(4), 1980);
        due.is("tick(20)", x.tick(20), Due.LIMIT);
        due.is("tick(100)", x.tick(100), Due.INVALID);
        due.is("post(0, 1, 19)", x.post(0, 1, 19), 1999);
        due.is("post(0, 1, 20)", x.post(0, 1, 20), 2000);
        due.is("tick(19)", x.tick(19), 1);
        due.is("tick(1)", x.tick(1), Due.LIMIT);
        due.is("count(4)", x.count(4), 1999);
        due.is("count(3)", x.count(3), 1);
        due.is("letterOf(0, 2)", x.letterOf(0, 2), 1);
    }
}
