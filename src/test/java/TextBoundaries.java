/** The boundary cases of the promises 24 to 27: texts, their faults and their orders. */
final class TextBoundaries {
    private static final int[] FAR = {-1, -2, 4, 32, 64, Integer.MAX_VALUE, Integer.MIN_VALUE};

    private final Due due;

    TextBoundaries(Due due) {
        this.due = due;
    }

    void test() {
        charactersInRange();
        sixtyCharacters();
        emptyingTexts();
        faultsInRange();
        textsWithoutFaults();
        positionsOfFaults();
        reasonsOfFaults();
        causesOfForms();
        causesOfCalls();
        causesOfLimits();
        ordersOfATextAreDone();
        playingFaults();
        playingNothing();
        oneChange();
        asManyOrdersAsThereCanBe();
    }

    /** Two writers have view 0 as their home, its sum is 5; the text is this. */
    private static PartedSums with(PartedSums x, String text) {
        WriterBoundaries.writers(x, 2);
        x.add(0, 5);
        Due.type(x, text);
        return x;
    }

    private void isFault(String text, int position, int reason, int cause) {
        PartedSums x = with(new PartedSums(), text);
        due.is(text + ": fault(0)", x.fault(0), position);
        due.is(text + ": fault(1)", x.fault(1), reason);
        due.is(text + ": fault(2)", x.fault(2), cause);
        due.is(text + ": play()", x.play(), Due.IMPOSSIBLE);
    }

    private void isNoFault(String text, int orders) {
        PartedSums x = with(new PartedSums(), text);
        for (int what = 0; what < 3; what++) {
            due.is(text + ": fault(" + what + ")", x.fault(what), Due.MISSING);
        }
        due.is(text + ": play()", x.play(), orders);
    }

    private void charactersInRange() {
        due.sentence("Promise 24", "Appends a character to the text", "`character`: 32 to 126",
            "INVALID_ARGUMENT if character is out of range");
        Steady steady = new Steady(due, TellBoundaries::mixed);
        for (int character : new int[] {31, 127, 0, 10, -1, -32, 128, 159, 160, 256 + 'n', Integer.MAX_VALUE,
            Integer.MIN_VALUE}) {
            steady.leaves("type(" + character + ")", Due.INVALID, x -> x.type(character));
        }
        for (int character : new int[] {32, 33, 125, 126}) {
            PartedSums x = due.sentence("Promise 24", "`character`: 32 to 126");
            due.is("type(" + character + ")", x.type(character), 1);
            due.is("count(9)", x.count(9), 1);
            due.is("count(8), no change", x.count(8), 0);
        }
        PartedSums x = due.sentence("Promise 24", "Appends a character to the text");
        Due.type(x, "n1;");
        due.is("play(), in the order in which they came", x.play(), 1);
        due.is("writerOf(0, 0)", x.writerOf(0, 0), 1);
    }

    private void sixtyCharacters() {
        due.sentence("Promise 24", "LIMIT_REACHED if it has 60 characters");
        Steady full = new Steady(due, x -> Due.type(x, "k1;".repeat(20)));
        full.leaves("type(59), the 61st", Due.LIMIT, x -> x.type(';'));
        full.leaves("type(32), the 61st", Due.LIMIT, x -> x.type(32));
        full.leaves("type(126), the 61st", Due.LIMIT, x -> x.type(126));
        full.leaves("type(31), the 61st", Due.INVALID, x -> x.type(31));
        full.leaves("type(127), the 61st", Due.INVALID, x -> x.type(127));
        PartedSums x = due.sentence("Promise 24", "Returns the length of the text", "LIMIT_REACHED if it has 60 characters");
        for (int k = 1; k <= 60; k++) {
            due.is("type(107)", x.type(107), k);
        }
        due.is("type(107), the 61st", x.type(107), Due.LIMIT);
        due.is("clearText()", x.clearText(), 60);
        due.is("type(107), the first again", x.type(107), 1);
    }

    private void emptyingTexts() {
        PartedSums x = due.sentence("Promise 25", "Empties the text", "Returns the length it had");
        due.is("clearText(), empty", x.clearText(), 0);
        x.type('n');
        due.is("clearText(), one", x.clearText(), 1);
        due.is("clearText(), empty again", x.clearText(), 0);
        Due.type(x, "n9;".repeat(20));
        due.is("clearText(), full", x.clearText(), 60);
        due.is("count(9)", x.count(9), 0);
        due.is("fault(0)", x.fault(0), Due.MISSING);
        Due.type(x, "k5");
        due.is("fault(2), nothing is left behind it", x.fault(2), 2);
        due.is("count(8), no change", x.count(8), 0);
        new Steady(due, PartedSums::clearText).leaves("clearText(), empty", 0, y -> y.clearText());
    }

    private void faultsInRange() {
        due.sentence("Promise 26", "Tells about the fault of the text", "0: its position", "1: its reason", "2: its cause",
            "Returns that", "INVALID_ARGUMENT if what is out of range");
        Steady steady = new Steady(due, TellBoundaries::mixed);
        Steady none = new Steady(due, x -> { });
        for (int what : FAR) {
            steady.leaves("fault(" + what + ")", Due.INVALID, x -> x.fault(what));
            none.leaves("fault(" + what + "), no text", Due.INVALID, x -> x.fault(what));
        }
        steady.leaves("fault(3)", Due.INVALID, x -> x.fault(3));
        none.leaves("fault(3), no text", Due.INVALID, x -> x.fault(3));
        int[] fault = {5, 1, 1};
        for (int what = 0; what < 3; what++) {
            int asked = what;
            steady.leaves("fault(" + what + ")", fault[what], x -> x.fault(asked));
            none.leaves("fault(" + what + "), no text", Due.MISSING, x -> x.fault(asked));
        }
    }

    private void textsWithoutFaults() {
        due.sentence("Promise 26", "NOT_FOUND if the text has no fault (also if it is empty)");
        isNoFault("", 0);
        isNoFault("n0;", 1);
        isNoFault("n1;n1;n1;n0;n0;n0;", 6);
        isNoFault("a0,1;a1,999;", 2);
        isNoFault("t1,5;", 1);
        isNoFault("r0,1;", 1);
        isNoFault("p0,1,1;p1,0,99;", 2);
        isNoFault("k1;k99;", 2);
        isNoFault("p0,1,1;".repeat(8), 8);
        Steady done = new Steady(due, x -> with(x, "t0,5;a1,3;"));
        done.leaves("fault(0)", Due.MISSING, x -> x.fault(0));
    }

    private void positionsOfFaults() {
        due.sentence("Promise 26", "0: its position");
        isFault("x", 0, 1, 0);
        isFault("n0;x", 3, 1, 0);
        isFault("n0;a0,1;t0,7;", 8, 2, Due.IMPOSSIBLE);
        isFault("k1;".repeat(19) + "k0;", 57, 2, Due.INVALID);
        isFault("k1;".repeat(19) + "k1k", 57, 1, 2);
        isFault("k01;".repeat(14) + "k01", 56, 1, 3);
        isFault("k1;" + "k01;".repeat(14) + "x", 59, 1, 0);
    }

    private void reasonsOfFaults() {
        due.sentence("Promise 26", "1: its reason");
        isFault("n2;x", 0, 2, Due.INVALID);
        isFault("x;n2;", 0, 1, 0);
        isFault("n2", 0, 1, 2);
        isFault("n0;n2;", 3, 2, Due.INVALID);
    }

    private void causesOfForms() {
        due.sentence("Promise 26", "2: its cause");
        for (int length = 1; length < 15; length++) {
            isFault("p000,001,0001;".substring(0, length), 0, 1, Math.min(length, 12));
        }
        for (int length = 1; length <= 8; length++) {
            isFault("t001,006x".substring(0, length), 0, 1, length);
        }
        isFault("t001,006x", 0, 1, 8);
    }

    private void causesOfCalls() {
        due.sentence("Promise 26", "2: its cause");
        String[] invalid = {"n2;", "n5;", "n6;", "n999;", "a2,1;", "a999,1;", "a0,0;", "a0,000;", "t2,1;", "t0,0;", "r0,0;",
            "r0,2;", "r2,0;", "p0,0,1;", "p0,2,1;", "p2,0,1;", "p0,1,0;", "p0,1,100;", "p0,1,999;", "k0;", "k100;", "k999;"};
        for (String text : invalid) {
            isFault(text, 0, 2, Due.INVALID);
        }
        isFault("t0,6;", 0, 2, Due.IMPOSSIBLE);
        isFault("r0,1;a0,1;", 5, 2, Due.IMPOSSIBLE);
        isFault("r0,1;t0,1;", 5, 2, Due.IMPOSSIBLE);
        isFault("r0,1;r0,1;", 5, 2, Due.IMPOSSIBLE);
        isFault("r0,1;r1,0;", 5, 2, Due.IMPOSSIBLE);
        isFault("n1;r0,2;", 3, 2, Due.IMPOSSIBLE);
        isFault("n0;n0;n0;n0;n0;n0;n0;", 18, 2, Due.LIMIT);
        isFault("n0;n0;n0;n0;n0;n0;n2;", 18, 2, Due.INVALID);
    }

    private void causesOfLimits() {
        PartedSums x = due.sentence("Promise 26", "2: its cause");
        for (int k = 0; k < 7; k++) {
            x.post(0, 1, 99);
        }
        Due.type(x, "p0,1,9;");
        due.is("fault(0), eight letters", x.fault(0), Due.MISSING);
        Due.type(x, "p0,1,9;");
        due.is("fault(0), nine letters", x.fault(0), 7);
        due.is("fault(1), nine letters", x.fault(1), 2);
        due.is("fault(2), nine letters", x.fault(2), Due.LIMIT);
        ViewBoundaries.late(x);
        Due.retype(x, "k19;");
        due.is("fault(0), to 1999", x.fault(0), Due.MISSING);
        Due.type(x, "k1;");
        due.is("fault(0), to 2000", x.fault(0), 4);
        due.is("fault(1), to 2000", x.fault(1), 2);
        due.is("fault(2), to 2000", x.fault(2), Due.LIMIT);
    }

    private void ordersOfATextAreDone() {
        PartedSums x = due.sentence("Promise 27", "Does all orders of the text, which stays");
        Due.type(x, "n0;n0;a0,9;t1,4;r0,1;p0,1,2;k2;");
        due.is("play()", x.play(), 7);
        due.is("count(2)", x.count(2), 1);
        due.is("viewOf(1, 0)", x.viewOf(1, 0), 5);
        due.is("count(9), it stays", x.count(9), 31);
        due.is("clearText()", x.clearText(), 31);
    }

    private void playingFaults() {
        due.sentence("Promise 27", "NOT_POSSIBLE if it has a fault");
        String[] texts = {"x", "n0;x", "n0;n2;", "a0,1;t0,7;", "k1;k0;", "p0,1,1;k1", ";", "n0;;", "k1;".repeat(19) + "k0;"};
        for (String text : texts) {
            Steady steady = new Steady(due, x -> with(x, text));
            steady.leaves(text + ": play()", Due.IMPOSSIBLE, x -> x.play());
        }
    }

    private void playingNothing() {
        PartedSums x = due.sentence("Promise 27", "They are one change, also if there are none");
        due.is("play(), no orders", x.play(), 0);
        due.is("count(8)", x.count(8), 1);
        x.writer(0);
        for (int k = 2; k <= 6; k++) {
            due.is("play(), no orders", x.play(), 0);
            due.is("count(8)", x.count(8), Math.min(k + 1, 4));
        }
        for (int k = 3; k >= 0; k--) {
            due.is("undo()", x.undo(), k);
            due.is("count(1)", x.count(1), 1);
        }
    }

    private void oneChange() {
        PartedSums x = due.sentence("Promise 27", "They are one change");
        Due.type(x, "n0;a0,1;a0,1;a0,1;a0,1;a0,1;");
        due.is("play(), six orders", x.play(), 6);
        due.is("count(8)", x.count(8), 1);
        due.is("viewOf(0, 0)", x.viewOf(0, 0), 5);
        due.is("undo()", x.undo(), 0);
        due.is("count(1), none is done", x.count(1), 0);
        due.is("count(9), the text is no part of states", x.count(9), 28);
        for (int k = 1; k <= 5; k++) {
            due.is("play()", x.play(), 6);
            due.is("count(8)", x.count(8), Math.min(k, 4));
        }
        due.is("count(1)", x.count(1), 5);
        due.is("viewOf(0, 0)", x.viewOf(0, 0), 25);
    }

    private void asManyOrdersAsThereCanBe() {
        PartedSums x = due.sentence("Promise 27", "Returns how many there are in it");
        Due.type(x, "k9;".repeat(19));
        due.is("play(), nineteen", x.play(), 19);
        Due.type(x, "k9;");
        due.is("play(), twenty", x.play(), 20);
        due.is("count(4)", x.count(4), 351);
        Due.retype(x, "k1;");
        due.is("play(), one", x.play(), 1);
        x.clearText();
        due.is("play(), none", x.play(), 0);
    }
}
