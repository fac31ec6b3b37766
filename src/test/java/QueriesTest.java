/** Promises 12 to 16: what is told of views, parts, writers and letters, and what a view lacks. */
public final class QueriesTest {
    private static final Due due = new Due("QueriesTest");

    public static void main(String[] args) {
        viewsTell();
        viewsThatKnowTheSame();
        partsTell();
        writersTell();
        lettersTell();
        viewsLack();
        viewsLackGraves();
        due.end();
    }

    private static void viewsTell() {
        PartedSums x = due.start("promise 12");
        x.writer(0);
        x.writer(1);
        x.writer(0);
        x.add(0, 100);
        x.take(2, 30);
        x.add(1, 5);
        x.merge(0, 1);
        due.is("viewOf(0, 0)", x.viewOf(0, 0), 75);
        due.is("viewOf(0, 1)", x.viewOf(0, 1), 105);
        due.is("viewOf(0, 2)", x.viewOf(0, 2), 30);
        due.is("viewOf(0, 3)", x.viewOf(0, 3), 3);
        due.is("viewOf(0, 4)", x.viewOf(0, 4), 0);
        due.is("viewOf(0, 5)", x.viewOf(0, 5), 5);
        due.is("viewOf(0, 6)", x.viewOf(0, 6), 7);
        due.is("viewOf(0, 7)", x.viewOf(0, 7), 1);
        x.retire(0, 2);
        due.is("viewOf(0, 1)", x.viewOf(0, 1), 105);
        due.is("viewOf(0, 3)", x.viewOf(0, 3), 2);
        due.is("viewOf(0, 4)", x.viewOf(0, 4), 1);
        due.is("viewOf(0, 5)", x.viewOf(0, 5), 4);
        due.is("viewOf(0, 6)", x.viewOf(0, 6), 6);
        due.is("viewOf(1, 5)", x.viewOf(1, 5), 2);
        due.is("viewOf(0, -1)", x.viewOf(0, -1), Due.INVALID);
        due.is("viewOf(0, 8)", x.viewOf(0, 8), Due.INVALID);
        due.is("viewOf(-1, 0)", x.viewOf(-1, 0), Due.INVALID);
        due.is("viewOf(2, 0)", x.viewOf(2, 0), Due.INVALID);
        due.is("viewOf(6, 0)", x.viewOf(6, 0), Due.INVALID);
        due.is("viewOf(32, 0)", x.viewOf(32, 0), Due.INVALID);
        due.is("viewOf(MIN, MAX)", x.viewOf(Integer.MIN_VALUE, Integer.MAX_VALUE), Due.INVALID);
        due.is("count(8), no change", x.count(8), 4);
    }

    private static void viewsThatKnowTheSame() {
        PartedSums x = due.start("promise 12, the same");
        x.writer(0);
        x.view(1);
        x.view(0);
        due.is("viewOf(0, 7)", x.viewOf(0, 7), 9);
        due.is("viewOf(1, 7)", x.viewOf(1, 7), 6);
        x.drop(2);
        due.is("viewOf(1, 7)", x.viewOf(1, 7), 2);
        x.add(0, 1);
        due.is("viewOf(3, 7)", x.viewOf(3, 7), 8);

        PartedSums y = due.start("promise 12, a sum below 0");
        y.writer(0);
        y.writer(1);
        y.add(0, 10);
        y.merge(1, 0);
        due.is("take(0, 10)", y.take(0, 10), 0);
        due.is("take(1, 10), of the same", y.take(1, 10), 0);
        due.is("merge(1, 0)", y.merge(1, 0), 1);
        due.is("viewOf(1, 0)", y.viewOf(1, 0), -10);
        due.is("take(1, 1)", y.take(1, 1), Due.IMPOSSIBLE);
        due.is("add(1, 4)", y.add(1, 4), -6);
        due.is("count(8), a sum below 0 is no error", y.count(8), 4);
        due.is("viewOf(1, 0)", y.viewOf(1, 0), -6);
    }

    private static void partsTell() {
        PartedSums x = due.start("promise 13");
        x.writer(0);
        x.writer(1);
        x.add(0, 12);
        x.take(0, 5);
        due.is("partOf(0, 0, 0)", x.partOf(0, 0, 0), 3);
        due.is("partOf(0, 0, 1)", x.partOf(0, 0, 1), 12);
        due.is("partOf(0, 0, 2)", x.partOf(0, 0, 2), 5);
        due.is("partOf(0, 0, 3)", x.partOf(0, 0, 3), Due.INVALID);
        due.is("partOf(0, 0, -1)", x.partOf(0, 0, -1), Due.INVALID);
        due.is("partOf(0, 1, 0), not known", x.partOf(0, 1, 0), Due.MISSING);
        due.is("partOf(0, 1, 3), not known", x.partOf(0, 1, 3), Due.INVALID);
        due.is("partOf(0, 2, 0), no writer", x.partOf(0, 2, 0), Due.INVALID);
        due.is("partOf(0, -1, 0)", x.partOf(0, -1, 0), Due.INVALID);
        due.is("partOf(0, 8, 0)", x.partOf(0, 8, 0), Due.INVALID);
        due.is("partOf(2, 0, 0), no view", x.partOf(2, 0, 0), Due.INVALID);
        due.is("partOf(-1, 0, 0)", x.partOf(-1, 0, 0), Due.INVALID);
        x.writer(0);
        x.merge(1, 0);
        x.retire(0, 2);
        due.is("partOf(0, 0, 0), gone", x.partOf(0, 0, 0), Due.MISSING);
        due.is("partOf(1, 0, 0), there still", x.partOf(1, 0, 0), 3);
    }

    private static void writersTell() {
        PartedSums x = due.start("promise 14");
        x.writer(1);
        x.writer(1);
        x.add(0, 4);
        x.merge(0, 1);
        x.view(0);
        due.is("writerOf(0, 0)", x.writerOf(0, 0), 1);
        due.is("writerOf(0, 1)", x.writerOf(0, 1), 2);
        due.is("writerOf(0, 2)", x.writerOf(0, 2), Due.MISSING);
        due.is("writerOf(0, 3)", x.writerOf(0, 3), 7);
        due.is("writerOf(0, 4)", x.writerOf(0, 4), 0);
        x.add(0, 4);
        due.is("writerOf(0, 1)", x.writerOf(0, 1), 3);
        due.is("writerOf(0, 3)", x.writerOf(0, 3), 2);
        due.is("writerOf(1, 3)", x.writerOf(1, 3), 7);
        x.drop(0);
        due.is("writerOf(1, 3)", x.writerOf(1, 3), 6);
        due.is("writerOf(0, -1)", x.writerOf(0, -1), Due.INVALID);
        due.is("writerOf(0, 5)", x.writerOf(0, 5), Due.INVALID);
        due.is("writerOf(-1, 0)", x.writerOf(-1, 0), Due.INVALID);
        due.is("writerOf(2, 0)", x.writerOf(2, 0), Due.INVALID);
        due.is("writerOf(8, 0)", x.writerOf(8, 0), Due.INVALID);
        x.retire(1, 0);
        due.is("writerOf(1, 0), retired", x.writerOf(1, 0), Due.MISSING);
        due.is("writerOf(1, 1), retired", x.writerOf(1, 1), Due.MISSING);
        due.is("writerOf(1, 2), retired", x.writerOf(1, 2), 0);
        due.is("writerOf(1, 3), retired", x.writerOf(1, 3), Due.MISSING);
        due.is("writerOf(1, 4), retired", x.writerOf(1, 4), 2);
        due.is("writerOf(1, 5), retired", x.writerOf(1, 5), Due.INVALID);
        x.merge(2, 1);
        due.is("writerOf(1, 4), retired", x.writerOf(1, 4), 6);
        x.drop(2);
        due.is("writerOf(1, 4), retired", x.writerOf(1, 4), 2);
        x.view(1);
        due.is("writerOf(1, 4), copied", x.writerOf(1, 4), 3);
    }

    private static void lettersTell() {
        PartedSums x = due.start("promise 15");
        x.writer(0);
        x.add(0, 6);
        x.view(0);
        due.is("letterOf(0, 0), none", x.letterOf(0, 0), Due.MISSING);
        x.post(0, 1, 9);
        x.add(0, 1);
        x.post(0, 2, 4);
        x.post(1, 0, 9);
        x.tick(2);
        x.post(2, 1, 2);
        long[][] letters = {{0, 2, 2, 7, 0}, {2, 1, 2, 6, 0}, {0, 1, 7, 6, 0}, {1, 0, 7, 0, 0}};
        for (int k = 0; k < letters.length; k++) {
            for (int what = 0; what < 5; what++) {
                due.is("letterOf(" + k + ", " + what + ")", x.letterOf(k, what), letters[k][what]);
            }
        }
        due.is("letterOf(4, 0)", x.letterOf(4, 0), Due.MISSING);
        due.is("letterOf(8, 0)", x.letterOf(8, 0), Due.MISSING);
        due.is("letterOf(MAX, 0)", x.letterOf(Integer.MAX_VALUE, 0), Due.MISSING);
        due.is("letterOf(4, 5)", x.letterOf(4, 5), Due.INVALID);
        due.is("letterOf(0, -1)", x.letterOf(0, -1), Due.INVALID);
        due.is("letterOf(0, 5)", x.letterOf(0, 5), Due.INVALID);
        due.is("letterOf(-1, 0)", x.letterOf(-1, 0), Due.INVALID);
        x.drop(2);
        due.is("letterOf(0, 4), dropped", x.letterOf(0, 4), 1);
        due.is("letterOf(0, 1), dropped", x.letterOf(0, 1), 2);
        due.is("letterOf(1, 0), from a dropped one", x.letterOf(1, 0), 2);
        due.is("letterOf(1, 4), from a dropped one", x.letterOf(1, 4), 0);
        x.view(1);
        due.is("letterOf(0, 4), a new one there", x.letterOf(0, 4), 1);
        due.is("tick(2)", x.tick(2), 1);
        due.is("letterOf(0, 1)", x.letterOf(0, 1), 1);
        due.is("letterOf(0, 2)", x.letterOf(0, 2), 5);
        due.is("letterOf(1, 0)", x.letterOf(1, 0), 1);
        due.is("letterOf(2, 0)", x.letterOf(2, 0), Due.MISSING);
    }

    private static void viewsLack() {
        PartedSums x = due.start("promise 16");
        x.writer(0);
        x.writer(1);
        x.writer(0);
        x.add(0, 10);
        x.add(1, 5);
        due.is("lacks(0, 1, 0)", x.lacks(0, 1, 0), 1);
        due.is("lacks(0, 1, 1)", x.lacks(0, 1, 1), 5);
        due.is("lacks(0, 1, 2)", x.lacks(0, 1, 2), 0);
        due.is("lacks(1, 0, 0)", x.lacks(1, 0, 0), 2);
        due.is("lacks(1, 0, 1)", x.lacks(1, 0, 1), 10);
        x.merge(0, 1);
        due.is("lacks(0, 1, 0)", x.lacks(0, 1, 0), 0);
        due.is("lacks(0, 1, 2)", x.lacks(0, 1, 2), 0);
        due.is("lacks(1, 0, 2)", x.lacks(1, 0, 2), 1);
        x.take(2, 12);
        due.is("lacks(1, 0, 1)", x.lacks(1, 0, 1), -2);
        due.is("viewOf(1, 0), no merge", x.viewOf(1, 0), 5);
        due.is("lacks(0, 0, 0)", x.lacks(0, 0, 0), Due.INVALID);
        due.is("lacks(0, 2, 0)", x.lacks(0, 2, 0), Due.INVALID);
        due.is("lacks(2, 0, 0)", x.lacks(2, 0, 0), Due.INVALID);
        due.is("lacks(-1, 0, 0)", x.lacks(-1, 0, 0), Due.INVALID);
        due.is("lacks(0, 1, -1)", x.lacks(0, 1, -1), Due.INVALID);
        due.is("lacks(0, 1, 3)", x.lacks(0, 1, 3), Due.INVALID);
        due.is("count(7), no merge", x.count(7), 1);
    }

    private static void viewsLackGraves() {
        PartedSums x = due.start("promise 16, graves");
        x.writer(0);
        x.writer(0);
        x.add(0, 10);
        x.merge(1, 0);
        x.retire(0, 1);
        due.is("lacks(1, 0, 0)", x.lacks(1, 0, 0), 2);
        due.is("lacks(1, 0, 1)", x.lacks(1, 0, 1), 0);
        due.is("lacks(1, 0, 2)", x.lacks(1, 0, 2), 1);
        due.is("lacks(0, 1, 0)", x.lacks(0, 1, 0), 0);
        due.is("lacks(0, 1, 1)", x.lacks(0, 1, 1), 0);
        due.is("lacks(0, 1, 2)", x.lacks(0, 1, 2), 0);
    }
}
