/** Promises 2 to 6: writers come, add, take, retire and move. */
public final class WritersTest {
    private static final Due due = new Due("WritersTest");

    public static void main(String[] args) {
        writersCome();
        writersAdd();
        writersTake();
        writersRetire();
        retiringLeavesEverythingToTheHeir();
        chainsOfHeirs();
        writersMove();
        writersMoveBehindAWrite();
        due.end();
    }

    private static void writersCome() {
        PartedSums x = due.start("promise 2");
        due.is("writer(-1)", x.writer(-1), Due.INVALID);
        due.is("writer(2)", x.writer(2), Due.INVALID);
        due.is("writer(6)", x.writer(6), Due.INVALID);
        due.is("writer(32)", x.writer(32), Due.INVALID);
        due.is("writer(MIN)", x.writer(Integer.MIN_VALUE), Due.INVALID);
        due.is("writer(MAX)", x.writer(Integer.MAX_VALUE), Due.INVALID);
        due.is("count(8)", x.count(8), 0);
        due.is("writer(1)", x.writer(1), 0);
        due.is("count(8)", x.count(8), 1);
        due.is("partOf(1, 0, 0)", x.partOf(1, 0, 0), 1);
        due.is("partOf(1, 0, 1)", x.partOf(1, 0, 1), 0);
        due.is("partOf(1, 0, 2)", x.partOf(1, 0, 2), 0);
        due.is("partOf(0, 0, 0)", x.partOf(0, 0, 0), Due.MISSING);
        for (int k = 1; k < 8; k++) {
            due.is("writer(0)", x.writer(0), k);
        }
        due.is("writer(0), the ninth", x.writer(0), Due.LIMIT);
        due.is("writer(2), the ninth", x.writer(2), Due.INVALID);
        due.is("retire(1, 2)", x.retire(1, 2), 7);
        due.is("writer(0), one has retired", x.writer(0), Due.LIMIT);
        due.is("viewOf(0, 5)", x.viewOf(0, 5), 252);
    }

    private static void writersAdd() {
        PartedSums x = due.start("promise 3");
        due.is("add(0, 1), nobody", x.add(0, 1), Due.INVALID);
        x.writer(0);
        x.writer(0);
        due.is("add(-1, 1)", x.add(-1, 1), Due.INVALID);
        due.is("add(2, 1)", x.add(2, 1), Due.INVALID);
        due.is("add(0, 0)", x.add(0, 0), Due.INVALID);
        due.is("add(0, -1)", x.add(0, -1), Due.INVALID);
        due.is("add(0, 1000)", x.add(0, 1000), Due.INVALID);
        due.is("add(0, 1)", x.add(0, 1), 1);
        due.is("add(0, 999)", x.add(0, 999), 1000);
        due.is("add(1, 10)", x.add(1, 10), 1010);
        due.is("partOf(0, 0, 0)", x.partOf(0, 0, 0), 3);
        due.is("partOf(0, 0, 1)", x.partOf(0, 0, 1), 1000);
        due.is("partOf(0, 0, 2)", x.partOf(0, 0, 2), 0);
        due.is("partOf(0, 1, 0)", x.partOf(0, 1, 0), 2);
        x.retire(0, 1);
        due.is("add(0, 1), retired", x.add(0, 1), Due.IMPOSSIBLE);
        due.is("add(0, 0), retired", x.add(0, 0), Due.INVALID);
        due.is("viewOf(0, 0)", x.viewOf(0, 0), 1010);
    }

    private static void writersTake() {
        PartedSums x = due.start("promise 4");
        due.is("take(0, 1), nobody", x.take(0, 1), Due.INVALID);
        x.writer(0);
        x.writer(0);
        x.add(0, 50);
        due.is("take(1, 51)", x.take(1, 51), Due.IMPOSSIBLE);
        due.is("take(1, 1000)", x.take(1, 1000), Due.INVALID);
        due.is("take(1, 0)", x.take(1, 0), Due.INVALID);
        due.is("take(2, 1)", x.take(2, 1), Due.INVALID);
        due.is("take(-1, 1)", x.take(-1, 1), Due.INVALID);
        due.is("take(1, 30)", x.take(1, 30), 20);
        due.is("partOf(0, 1, 0)", x.partOf(0, 1, 0), 2);
        due.is("partOf(0, 1, 1)", x.partOf(0, 1, 1), 0);
        due.is("partOf(0, 1, 2)", x.partOf(0, 1, 2), 30);
        due.is("take(0, 20), all there is", x.take(0, 20), 0);
        due.is("take(0, 1)", x.take(0, 1), Due.IMPOSSIBLE);
        x.add(1, 999);
        due.is("take(0, 999)", x.take(0, 999), 0);
        x.add(0, 5);
        x.retire(1, 0);
        due.is("take(1, 1), retired", x.take(1, 1), Due.IMPOSSIBLE);
        due.is("take(1, 1000), retired", x.take(1, 1000), Due.INVALID);
        due.is("take(0, 5)", x.take(0, 5), 0);
    }

    private static void writersRetire() {
        PartedSums x = due.start("promise 5");
        due.is("retire(0, 1), nobody", x.retire(0, 1), Due.INVALID);
        x.writer(0);
        due.is("retire(0, 1), no heir", x.retire(0, 1), Due.INVALID);
        due.is("retire(0, 0)", x.retire(0, 0), Due.INVALID);
        x.writer(1);
        x.writer(0);
        due.is("retire(0, 1), other home", x.retire(0, 1), Due.IMPOSSIBLE);
        due.is("retire(0, -1)", x.retire(0, -1), Due.INVALID);
        due.is("retire(-1, 0)", x.retire(-1, 0), Due.INVALID);
        due.is("retire(0, 3)", x.retire(0, 3), Due.INVALID);
        due.is("retire(0, 2)", x.retire(0, 2), 2);
        due.is("retire(0, 2) again", x.retire(0, 2), Due.IMPOSSIBLE);
        due.is("retire(2, 0), heir retired", x.retire(2, 0), Due.IMPOSSIBLE);
        due.is("retire(0, 0), retired", x.retire(0, 0), Due.INVALID);
        due.is("move(0, 1), retired", x.move(0, 1), Due.IMPOSSIBLE);
    }

    private static void retiringLeavesEverythingToTheHeir() {
        PartedSums x = due.start("promise 5, the parts");
        x.writer(0);
        x.writer(0);
        x.add(0, 100);
        x.take(0, 30);
        x.add(1, 7);
        x.take(1, 2);
        due.is("retire(0, 1)", x.retire(0, 1), 1);
        due.is("partOf(0, 1, 0)", x.partOf(0, 1, 0), 4);
        due.is("partOf(0, 1, 1)", x.partOf(0, 1, 1), 107);
        due.is("partOf(0, 1, 2)", x.partOf(0, 1, 2), 32);
        due.is("partOf(0, 0, 0)", x.partOf(0, 0, 0), Due.MISSING);
        due.is("viewOf(0, 0)", x.viewOf(0, 0), 75);
        due.is("viewOf(0, 4)", x.viewOf(0, 4), 1);
        due.is("viewOf(1, 4)", x.viewOf(1, 4), 0);
        due.is("count(2)", x.count(2), 1);
        due.is("count(1)", x.count(1), 2);
    }

    private static void chainsOfHeirs() {
        PartedSums x = due.start("promise 5, heirs of heirs");
        x.writer(1);
        x.writer(1);
        x.writer(1);
        x.add(0, 1);
        x.add(1, 10);
        x.add(2, 100);
        due.is("retire(0, 1)", x.retire(0, 1), 2);
        due.is("retire(1, 2)", x.retire(1, 2), 1);
        due.is("writerOf(0, 2)", x.writerOf(0, 2), 1);
        due.is("writerOf(1, 2)", x.writerOf(1, 2), 2);
        due.is("partOf(1, 2, 1)", x.partOf(1, 2, 1), 111);
        due.is("partOf(1, 2, 0)", x.partOf(1, 2, 0), 3);
        due.is("viewOf(1, 6)", x.viewOf(1, 6), 4);
        due.is("viewOf(1, 4)", x.viewOf(1, 4), 2);
    }

    private static void writersMove() {
        PartedSums x = due.start("promise 6");
        due.is("move(0, 1), nobody", x.move(0, 1), Due.INVALID);
        x.writer(0);
        due.is("move(0, 0), its home", x.move(0, 0), Due.IMPOSSIBLE);
        due.is("move(0, 1), not known there", x.move(0, 1), Due.IMPOSSIBLE);
        due.is("move(0, 2), no view", x.move(0, 2), Due.INVALID);
        due.is("move(0, -1)", x.move(0, -1), Due.INVALID);
        due.is("move(-1, 1)", x.move(-1, 1), Due.INVALID);
        due.is("move(1, 1)", x.move(1, 1), Due.INVALID);
        x.merge(1, 0);
        due.is("move(0, 1)", x.move(0, 1), 0);
        due.is("writerOf(0, 0)", x.writerOf(0, 0), 1);
        due.is("viewOf(0, 5)", x.viewOf(0, 5), 0);
        due.is("viewOf(1, 5)", x.viewOf(1, 5), 1);
        due.is("move(0, 0), back at once", x.move(0, 0), 1);
        due.is("move(0, 0)", x.move(0, 0), Due.IMPOSSIBLE);
    }

    private static void writersMoveBehindAWrite() {
        PartedSums x = due.start("promise 6, versions");
        x.writer(0);
        x.merge(1, 0);
        x.add(0, 5);
        due.is("move(0, 1), an old version there", x.move(0, 1), Due.IMPOSSIBLE);
        x.merge(1, 0);
        due.is("move(0, 1)", x.move(0, 1), 0);
        due.is("add(0, 3)", x.add(0, 3), 8);
        due.is("viewOf(0, 0)", x.viewOf(0, 0), 5);
        due.is("viewOf(1, 0)", x.viewOf(1, 0), 8);
        due.is("move(0, 0), an old version there", x.move(0, 0), Due.IMPOSSIBLE);
        due.is("writer(0)", x.writer(0), 1);
        due.is("retire(1, 0), it has moved", x.retire(1, 0), Due.IMPOSSIBLE);
    }
}
