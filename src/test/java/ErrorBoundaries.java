import java.util.LinkedHashMap;
import java.util.Map;
import java.util.function.ToIntFunction;

/** The boundary cases of "Changes and errors": the history, and which error is returned. */
final class ErrorBoundaries {
    private final Due due;

    ErrorBoundaries(Due due) {
        this.due = due;
    }

    void test() {
        changesAreRecorded();
        changesAreUndone();
        otherCallsAreNotRecorded();
        fourStates();
        everythingButTheText();
        severalErrors();
        errorsChangeNothing();
        noSuchNumber();
        theConstants();
        allCallsOfAnObject();
    }

    /** Three changes, behind which each of the changes below can be done. */
    private static void threeChanges(PartedSums x) {
        Due.type(x, "n0;n0;n0;n0;a2,9;p0,1,1;p0,1,2;");
        x.play();
        x.merge(1, 0);
        x.view(1);
        Due.retype(x, "n1;a1,3;k1;");
    }

    private static Map<String, ToIntFunction<PartedSums>> changes() {
        Map<String, ToIntFunction<PartedSums>> calls = new LinkedHashMap<>();
        calls.put("writer(0)", x -> x.writer(0));
        calls.put("add(1, 1)", x -> x.add(1, 1));
        calls.put("take(1, 1)", x -> x.take(1, 1));
        calls.put("retire(1, 3)", x -> x.retire(1, 3));
        calls.put("move(1, 1)", x -> x.move(1, 1));
        calls.put("view(0)", x -> x.view(0));
        calls.put("drop(1)", x -> x.drop(1));
        calls.put("merge(1, 0)", x -> x.merge(1, 0));
        calls.put("post(0, 1, 1)", x -> x.post(0, 1, 1));
        calls.put("tick(1)", x -> x.tick(1));
        calls.put("play()", x -> x.play());
        return calls;
    }

    private void changesAreRecorded() {
        due.sentence("Changes and errors",
            "The changes are the calls of writer, add, take, retire, move, view, drop, merge, post, "
            + "tick and play that return no error");
        changes().forEach((words, call) -> {
            PartedSums x = new PartedSums();
            threeChanges(x);
            due.is("count(8), ahead of " + words, x.count(8), 3);
            due.is(words + " returns no error", call.applyAsInt(x) >= 0 ? 1 : 0, 1);
            due.is("count(8), behind " + words, x.count(8), 4);
            due.is("undo(), behind " + words, x.undo(), 3);
        });
    }

    private void changesAreUndone() {
        due.sentence("Changes and errors", "each change records everything before it but the text");
        Steady steady = new Steady(due, ErrorBoundaries::threeChanges);
        changes().forEach((words, call) -> steady.leaves("undo(), behind " + words, 3, x -> {
            call.applyAsInt(x);
            return x.undo();
        }));
    }

    private void otherCallsAreNotRecorded() {
        PartedSums x = due.sentence("Changes and errors", "The changes are the calls of");
        x.writer(0);
        x.post(0, 1, 2);
        x.viewOf(0, 0);
        x.partOf(0, 0, 0);
        x.writerOf(0, 0);
        x.letterOf(0, 0);
        x.lacks(1, 0, 0);
        x.whole();
        x.seen();
        x.rounds();
        x.would(1, 9);
        x.latest(0);
        x.count(0);
        x.type('n');
        x.fault(0);
        x.clearText();
        due.is("count(8)", x.count(8), 2);
        due.is("undo()", x.undo(), 1);
        due.is("count(8), undo() is no change", x.count(8), 1);
        due.is("count(3)", x.count(3), 0);
        due.is("count(1)", x.count(1), 1);
    }

    private void fourStates() {
        PartedSums x = due.sentence("Changes and errors", "A history of at most 4 states is kept",
            "and if there are 5 states then, the oldest one is dropped");
        x.writer(0);
        x.add(0, 1);
        x.add(0, 2);
        x.add(0, 4);
        due.is("count(8), four", x.count(8), 4);
        for (int k = 3; k >= 0; k--) {
            due.is("undo()", x.undo(), k);
        }
        due.is("count(1), the first state of all", x.count(1), 0);
        x.writer(0);
        x.add(0, 1);
        x.add(0, 2);
        x.add(0, 4);
        x.add(0, 8);
        due.is("count(8), a fifth", x.count(8), 4);
        int[] sums = {7, 3, 1, 0};
        for (int k = 3; k >= 0; k--) {
            due.is("undo()", x.undo(), k);
            due.is("viewOf(0, 0)", x.viewOf(0, 0), sums[3 - k]);
        }
        due.is("count(1), the oldest one was dropped", x.count(1), 1);
        due.is("undo()", x.undo(), Due.IMPOSSIBLE);
    }

    private void everythingButTheText() {
        PartedSums x = due.sentence("Changes and errors", "each change records everything before it but the text");
        x.writer(0);
        Due.type(x, "n0;");
        x.add(0, 1);
        x.clearText();
        Due.type(x, "k12;");
        due.is("undo()", x.undo(), 1);
        due.is("count(9), as it was typed", x.count(9), 4);
        due.is("play()", x.play(), 1);
        due.is("count(4)", x.count(4), 12);
        due.is("undo()", x.undo(), 1);
        due.is("count(4)", x.count(4), 0);
        due.is("undo()", x.undo(), 0);
        due.is("count(9)", x.count(9), 4);
    }

    private void severalErrors() {
        due.sentence("Changes and errors",
            "If several errors apply to a call, INVALID_ARGUMENT is returned rather than NOT_POSSIBLE, "
            + "NOT_POSSIBLE rather than LIMIT_REACHED, and LIMIT_REACHED rather than NOT_FOUND");
        Steady full = new Steady(due, x -> {
            ViewBoundaries.sixViews(x);
            WriterBoundaries.writers(x, 7);
            x.retire(1, 2);
            for (int k = 0; k < 8; k++) {
                x.post(0, 1, 9);
            }
            ViewBoundaries.late(x);
            for (int k = 0; k < 8; k++) {
                x.post(0, 1, 99);
            }
            x.tick(19);
            Due.type(x, "k1;".repeat(20));
        });
        full.leaves("writer(6), nine", Due.INVALID, x -> x.writer(6));
        full.leaves("writer(0), nine", Due.LIMIT, x -> x.writer(0));
        full.leaves("add(1, 0), retired", Due.INVALID, x -> x.add(1, 0));
        full.leaves("take(1, 1000), retired, and too much", Due.INVALID, x -> x.take(1, 1000));
        full.leaves("take(0, 1000), too much", Due.INVALID, x -> x.take(0, 1000));
        full.leaves("retire(1, 1), retired", Due.INVALID, x -> x.retire(1, 1));
        full.leaves("retire(1, 8), retired", Due.INVALID, x -> x.retire(1, 8));
        full.leaves("move(1, 6), retired", Due.INVALID, x -> x.move(1, 6));
        full.leaves("view(6), seven", Due.INVALID, x -> x.view(6));
        full.leaves("view(0), seven", Due.LIMIT, x -> x.view(0));
        full.leaves("post(0, 0, 1), nine", Due.INVALID, x -> x.post(0, 0, 1));
        full.leaves("post(0, 1, 100), nine", Due.INVALID, x -> x.post(0, 1, 100));
        full.leaves("post(0, 1, 1), nine", Due.LIMIT, x -> x.post(0, 1, 1));
        full.leaves("tick(0), at the end of time", Due.INVALID, x -> x.tick(0));
        full.leaves("tick(100), at the end of time", Due.INVALID, x -> x.tick(100));
        full.leaves("tick(1), at the end of time", Due.LIMIT, x -> x.tick(1));
        full.leaves("partOf(1, 1, 3), not known", Due.INVALID, x -> x.partOf(1, 1, 3));
        full.leaves("writerOf(1, 5), retired", Due.INVALID, x -> x.writerOf(1, 5));
        full.leaves("letterOf(8, 5), not so many", Due.INVALID, x -> x.letterOf(8, 5));
        full.leaves("type(31), sixty", Due.INVALID, x -> x.type(31));
        full.leaves("type(32), sixty", Due.LIMIT, x -> x.type(32));
        full.leaves("fault(3)", Due.INVALID, x -> x.fault(3));
        full.leaves("fault(2), the call's error", Due.LIMIT, x -> x.fault(2));
        full.leaves("play()", Due.IMPOSSIBLE, x -> x.play());
    }

    private void errorsChangeNothing() {
        due.sentence("Changes and errors", "A call that returns an error changes nothing");
        Steady steady = new Steady(due, TellBoundaries::mixed);
        steady.leaves("writer(2)", Due.INVALID, x -> x.writer(2));
        steady.leaves("add(1, 1000)", Due.INVALID, x -> x.add(1, 1000));
        steady.leaves("add(0, 1)", Due.IMPOSSIBLE, x -> x.add(0, 1));
        steady.leaves("take(1, 17)", Due.IMPOSSIBLE, x -> x.take(1, 17));
        steady.leaves("retire(2, 1)", Due.IMPOSSIBLE, x -> x.retire(2, 1));
        steady.leaves("retire(2, 2)", Due.INVALID, x -> x.retire(2, 2));
        steady.leaves("move(1, 1)", Due.IMPOSSIBLE, x -> x.move(1, 1));
        steady.leaves("view(2)", Due.INVALID, x -> x.view(2));
        steady.leaves("drop(0)", Due.IMPOSSIBLE, x -> x.drop(0));
        steady.leaves("drop(2)", Due.INVALID, x -> x.drop(2));
        steady.leaves("merge(1, 2)", Due.INVALID, x -> x.merge(1, 2));
        steady.leaves("merge(1, 1)", Due.INVALID, x -> x.merge(1, 1));
        steady.leaves("post(0, 1, 0)", Due.INVALID, x -> x.post(0, 1, 0));
        steady.leaves("tick(100)", Due.INVALID, x -> x.tick(100));
        steady.leaves("type(127)", Due.INVALID, x -> x.type(127));
        steady.leaves("play()", Due.IMPOSSIBLE, x -> x.play());
        Steady empty = new Steady(due, x -> { });
        empty.leaves("undo()", Due.IMPOSSIBLE, x -> x.undo());
    }

    private void noSuchNumber() {
        due.sentence("Changes and errors",
            "If there is no view or writer with a certain number, this is INVALID_ARGUMENT (a writer that has retired "
                + "is there)");
        Steady steady = new Steady(due, TellBoundaries::mixed);
        for (int view : new int[] {2, 4, 5, 6, -1}) {
            steady.leaves("writer(" + view + ")", Due.INVALID, x -> x.writer(view));
            steady.leaves("move(1, " + view + ")", Due.INVALID, x -> x.move(1, view));
            steady.leaves("view(" + view + ")", Due.INVALID, x -> x.view(view));
            steady.leaves("drop(" + view + ")", Due.INVALID, x -> x.drop(view));
            steady.leaves("merge(0, " + view + ")", Due.INVALID, x -> x.merge(0, view));
            steady.leaves("merge(" + view + ", 0)", Due.INVALID, x -> x.merge(view, 0));
            steady.leaves("post(0, " + view + ", 1)", Due.INVALID, x -> x.post(0, view, 1));
            steady.leaves("post(" + view + ", 0, 1)", Due.INVALID, x -> x.post(view, 0, 1));
            steady.leaves("viewOf(" + view + ", 0)", Due.INVALID, x -> x.viewOf(view, 0));
            steady.leaves("partOf(" + view + ", 0, 0)", Due.INVALID, x -> x.partOf(view, 0, 0));
            steady.leaves("lacks(0, " + view + ", 0)", Due.INVALID, x -> x.lacks(0, view, 0));
            steady.leaves("lacks(" + view + ", 0, 0)", Due.INVALID, x -> x.lacks(view, 0, 0));
            steady.leaves("would(" + view + ", 0)", Due.INVALID, x -> x.would(view, 0));
        }
        for (int writer : new int[] {3, 7, 8, -1}) {
            steady.leaves("add(" + writer + ", 1)", Due.INVALID, x -> x.add(writer, 1));
            steady.leaves("take(" + writer + ", 1)", Due.INVALID, x -> x.take(writer, 1));
            steady.leaves("retire(1, " + writer + ")", Due.INVALID, x -> x.retire(1, writer));
            steady.leaves("retire(" + writer + ", 1)", Due.INVALID, x -> x.retire(writer, 1));
            steady.leaves("move(" + writer + ", 0)", Due.INVALID, x -> x.move(writer, 0));
            steady.leaves("partOf(0, " + writer + ", 0)", Due.INVALID, x -> x.partOf(0, writer, 0));
            steady.leaves("writerOf(" + writer + ", 0)", Due.INVALID, x -> x.writerOf(writer, 0));
        }
        steady.leaves("add(0, 1), retired", Due.IMPOSSIBLE, x -> x.add(0, 1));
        steady.leaves("take(0, 1), retired", Due.IMPOSSIBLE, x -> x.take(0, 1));
        steady.leaves("retire(0, 1), retired", Due.IMPOSSIBLE, x -> x.retire(0, 1));
        steady.leaves("retire(1, 0), retired", Due.IMPOSSIBLE, x -> x.retire(1, 0));
        steady.leaves("move(0, 1), retired", Due.IMPOSSIBLE, x -> x.move(0, 1));
        steady.leaves("partOf(0, 0, 0), retired", Due.MISSING, x -> x.partOf(0, 0, 0));
        steady.leaves("partOf(1, 0, 0), retired", 2, x -> x.partOf(1, 0, 0));
        steady.leaves("writerOf(0, 0), retired", Due.MISSING, x -> x.writerOf(0, 0));
        steady.leaves("writerOf(0, 4), retired", 1, x -> x.writerOf(0, 4));
    }

    private void theConstants() {
        due.sentence("Changes and errors", "The constants: `INVALID_ARGUMENT = -2000000001`", "`NOT_POSSIBLE = -2000000002`",
            "`LIMIT_REACHED = -2000000003`", "`NOT_FOUND = -2000000004`");
        due.is("INVALID_ARGUMENT", PartedSums.INVALID_ARGUMENT, -2000000001);
        due.is("NOT_POSSIBLE", PartedSums.NOT_POSSIBLE, -2000000002);
        due.is("LIMIT_REACHED", PartedSums.LIMIT_REACHED, -2000000003);
        due.is("NOT_FOUND", PartedSums.NOT_FOUND, -2000000004);
    }

    /** An object may be used for 512 calls: the last one answers as due, and amounts stay far from the codes. */
    private void allCallsOfAnObject() {
        PartedSums x = due.start("What it is, 512 calls");
        due.is("writer(0)", x.writer(0), 0);
        for (int k = 1; k <= 256; k++) {
            due.is("add(0, 999)", x.add(0, 999), 999 * k);
        }
        for (int k = 255; k >= 2; k--) {
            due.is("take(0, 999)", x.take(0, 999), 999 * k);
        }
        due.is("partOf(0, 0, 0), the 512th", x.partOf(0, 0, 0), 511);
    }
}
