/** "What it is": each thing that it names is there, and an object is good for 512 calls. */
final class IntroBoundaries {
    private static final String SECTION = "What it is";
    private static final int CALLS = 512;

    private final Due due;

    IntroBoundaries(Due due) {
        this.due = due;
    }

    void test() {
        partsAndSums();
        letters();
        retiringAndMoving();
        viewsComeAndGo();
        whatIsKnown();
        orders();
        theLastCall();
        theLastCallOfAnother();
        laterCallsEnd();
    }

    private void partsAndSums() {
        PartedSums x = due.sentence(SECTION, "Counters that many writers share", "views that know parts by writers",
            "sums of what was added and taken", "parts that are merged by their versions");
        x.writer(0);
        x.writer(0);
        x.add(0, 9);
        x.add(1, 5);
        x.take(0, 2);
        due.is("viewOf(0, 6), by writers", x.viewOf(0, 6), 3);
        due.is("viewOf(0, 0), added and taken", x.viewOf(0, 0), 12);
        x.merge(1, 0);
        x.add(0, 1);
        due.is("merge(0, 1), versions that are not greater", x.merge(0, 1), 0);
        due.is("viewOf(0, 0)", x.viewOf(0, 0), 13);
        due.is("merge(1, 0), one that is", x.merge(1, 0), 1);
        due.is("viewOf(1, 0)", x.viewOf(1, 0), 13);
    }

    private void letters() {
        PartedSums x = due.sentence(SECTION, "letters with what a view knew that come late");
        x.writer(0);
        x.add(0, 9);
        x.post(0, 1, 2);
        x.add(0, 1);
        due.is("tick(1), it comes late", x.tick(1), 0);
        due.is("viewOf(1, 0), nothing yet", x.viewOf(1, 0), 0);
        due.is("tick(1)", x.tick(1), 1);
        due.is("viewOf(1, 0), what the view knew", x.viewOf(1, 0), 9);
    }

    private void retiringAndMoving() {
        PartedSums x = due.sentence(SECTION, "writers who retire and leave their parts to heirs",
            "writers who move to other views");
        x.writer(0);
        x.writer(0);
        x.add(0, 9);
        due.is("retire(0, 1)", x.retire(0, 1), 1);
        due.is("partOf(0, 1, 1), the part of the heir", x.partOf(0, 1, 1), 9);
        due.is("writerOf(0, 2), the heir", x.writerOf(0, 2), 1);
        x.merge(1, 0);
        due.is("move(1, 1)", x.move(1, 1), 0);
        due.is("add(1, 1), in the other view", x.add(1, 1), 10);
        due.is("viewOf(0, 0), not in the one before", x.viewOf(0, 0), 9);
    }

    private void viewsComeAndGo() {
        PartedSums x = due.sentence(SECTION, "views that are copied and dropped");
        x.writer(0);
        x.add(0, 9);
        due.is("view(0)", x.view(0), 2);
        due.is("viewOf(2, 0), a copy", x.viewOf(2, 0), 9);
        due.is("drop(1)", x.drop(1), 2);
        due.is("viewOf(1, 0), dropped", x.viewOf(1, 0), Due.INVALID);
    }

    private void whatIsKnown() {
        PartedSums x = due.sentence(SECTION, "what a view lacks", "what all views have seen",
            "in how many letters all would agree");
        x.writer(0);
        x.add(0, 9);
        x.merge(1, 0);
        x.add(0, 1);
        x.writer(0);
        due.is("lacks(1, 0, 0)", x.lacks(1, 0, 0), 2);
        due.is("seen()", x.seen(), 9);
        due.is("rounds()", x.rounds(), 2);
    }

    private void orders() {
        PartedSums x = due.sentence(SECTION, "orders as texts with places, reasons and causes of faults");
        Due.type(x, "n0;a1,5;");
        due.is("fault(0), its place", x.fault(0), 3);
        due.is("fault(1), its reason", x.fault(1), 2);
        due.is("fault(2), its cause", x.fault(2), Due.INVALID);
    }

    private void theLastCall() {
        PartedSums x = due.sentence(SECTION, "An object is used for at most 512 calls after it has been made");
        due.is("call 1, writer(0)", x.writer(0), 0);
        int sum = 0;
        for (int call = 2; call < CALLS; call++) {
            sum += 999;
            due.is("call " + call + ", add(0, 999)", x.add(0, 999), sum);
        }
        due.is("call 512, partOf(0, 0, 0)", x.partOf(0, 0, 0), CALLS - 1);
    }

    /** The greatest sum that the calls can reach: texts of eight orders that add, played over and over. */
    private void theLastCallOfAnother() {
        PartedSums x = due.sentence(SECTION, "An object is used for at most 512 calls after it has been made");
        x.writer(0);
        String text = "a0,999;".repeat(8);
        Due.type(x, text);
        int plays = 0;
        for (int call = 2 + text.length(); call < CALLS; call++) {
            due.is("call " + call + ", play()", x.play(), 8);
            plays++;
        }
        due.is("call 512, viewOf(0, 0)", x.viewOf(0, 0), plays * 8 * 999);
    }

    /** What they answer is free, but LANGUAGE.md lets none of them throw or go on for ever. */
    private void laterCallsEnd() {
        PartedSums x = due.sentence(SECTION, "what later calls answer is free");
        int calls = 0;
        for (int k = 0; k < 20 * CALLS; k++) {
            int view = k % 7;
            int writer = k % 9;
            int[] answers = {x.writer(view), x.add(writer, 1 + k % 999), x.take(writer, 1 + k % 3), x.retire(writer, k % 11),
                x.move(writer, view), x.view(view), x.drop(k % 13), x.merge(view, k % 5), x.post(view, k % 5, 1 + k % 99),
                x.tick(1 + k % 99), x.viewOf(view, k % 8), x.partOf(view, writer, k % 3), x.writerOf(writer, k % 5),
                x.letterOf(writer, k % 5), x.lacks(view, k % 5, k % 3), x.whole(), x.seen(), x.rounds(), x.would(view, k % 100),
                x.latest(k % 2), x.count(k % 11), x.undo(), x.type(32 + k % 95), x.fault(k % 3), x.play(), x.clearText()};
            calls += answers.length;
        }
        due.is("calls", calls, 20 * CALLS * 26);
    }
}
