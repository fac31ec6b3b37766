/** Promises 24 to 27: texts are typed and emptied, their faults are told, their orders are done. */
public final class TextsTest {
    private static final Due due = new Due("TextsTest");

    public static void main(String[] args) {
        characters();
        textsAreEmptied();
        formsThatBreakOff();
        formsThatHold();
        ordersThatAreNotPossible();
        theFirstFaultCounts();
        faultsOfLimits();
        faultsChangeNothing();
        textsArePlayed();
        playIsOneChange();
        due.end();
    }

    private static void characters() {
        PartedSums x = due.start("promise 24");
        due.is("type(31)", x.type(31), Due.INVALID);
        due.is("type(127)", x.type(127), Due.INVALID);
        due.is("type(-1)", x.type(-1), Due.INVALID);
        due.is("type(MAX)", x.type(Integer.MAX_VALUE), Due.INVALID);
        due.is("type(32)", x.type(32), 1);
        due.is("type(126)", x.type(126), 2);
        for (int k = 3; k <= 60; k++) {
            due.is("type(65)", x.type(65), k);
        }
        due.is("type(65), the 61st", x.type(65), Due.LIMIT);
        due.is("type(31), the 61st", x.type(31), Due.INVALID);
        due.is("count(9)", x.count(9), 60);
        due.is("count(8), no change", x.count(8), 0);
    }

    private static void textsAreEmptied() {
        PartedSums x = due.start("promise 25");
        due.is("clearText()", x.clearText(), 0);
        Due.type(x, "x;n0;");
        due.is("fault(0)", x.fault(0), 0);
        due.is("clearText()", x.clearText(), 5);
        due.is("count(9)", x.count(9), 0);
        due.is("count(8), no change", x.count(8), 0);
        due.is("fault(0)", x.fault(0), Due.MISSING);
        Due.type(x, "n0;");
        due.is("play()", x.play(), 1);
        due.is("clearText()", x.clearText(), 3);
        due.is("undo()", x.undo(), 0);
        due.is("count(9), the text is no part of states", x.count(9), 0);
    }

    /** Each text is one order of a wrong form, with the character at which it breaks off. */
    private static void formsThatBreakOff() {
        String[] texts = {"x", ";", " n0;", "N0;", "n", "n;", "n0", "n0,", "n0,1;", "n 0;", "n0 ;", "n-1;",
            "n000", "n0000;", "n1234;", "a", "a0", "a0;", "a0,", "a0,;", "a0,1", "a0,1,", "a,1;", "a0,1,2;",
            "a0,1000;", "a00,001x", "t", "t0", "t0;", "t0,1 ", "r0", "r0;", "r0,", "r0,1", "r0,1,1;", "p", "p0",
            "p0;", "p0,1", "p0,1;", "p0,1,", "p0,1,;", "p0,1,2", "p0,1,2,", "p0,1,2,3;", "p0,1,2345;", "p000,111,222",
            "k", "k;", "k1", "k1,", "k0001;", "kk1;", "n/;", "n:;", "m0,1;", "d0;"};
        int[] causes = {0, 0, 0, 0, 1, 1, 2, 2, 2, 1, 2, 1,
            4, 4, 4, 1, 2, 2, 3, 3, 4, 4, 1, 4,
            6, 7, 1, 2, 2, 4, 2, 2, 3, 4, 4, 1, 2,
            2, 4, 4, 5, 5, 6, 6, 6, 8, 12,
            1, 1, 2, 2, 4, 1, 1, 1, 0, 0};
        PartedSums ones = due.start("promise 26, as many texts as causes");
        due.is("count", texts.length, causes.length);
        due.is("count(0)", ones.count(0), 2);
        for (int k = 0; k < texts.length && k < causes.length; k++) {
            PartedSums x = due.start("promise 26, " + texts[k]);
            x.writer(0);
            x.writer(0);
            Due.type(x, texts[k]);
            due.is("fault(0)", x.fault(0), 0);
            due.is("fault(1)", x.fault(1), 1);
            due.is("fault(2)", x.fault(2), causes[k]);
            due.is("play()", x.play(), Due.IMPOSSIBLE);
            Due.retype(x, "n0;" + texts[k]);
            due.is("fault(0), behind another", x.fault(0), 3);
            due.is("fault(2), behind another", x.fault(2), causes[k]);
        }
    }

    private static void formsThatHold() {
        String[] texts = {"n0;", "n001;", "a0,1;", "a000,999;", "a1,001;", "t0,5;", "r0,1;", "r001,000;",
            "p0,1,99;", "p001,000,001;", "k1;", "k99;", "k001;", "n0;n1;a2,5;t0,3;r2,0;p1,0,1;k1;"};
        for (int k = 0; k < texts.length; k++) {
            PartedSums x = due.start("promise 26, " + texts[k]);
            x.writer(0);
            x.writer(0);
            x.add(0, 5);
            Due.type(x, texts[k]);
            due.is("fault(0)", x.fault(0), Due.MISSING);
            due.is("fault(1)", x.fault(1), Due.MISSING);
            due.is("fault(2)", x.fault(2), Due.MISSING);
            due.is("fault(-1)", x.fault(-1), Due.INVALID);
            due.is("fault(3)", x.fault(3), Due.INVALID);
            due.is("count(8)", x.count(8), 3);
        }
    }

    private static void ordersThatAreNotPossible() {
        String[] texts = {"n2;", "n999;", "a2,1;", "a0,0;", "a0,000;", "t0,6;", "t0,0;", "t9,1;", "r0,0;", "r0,9;",
            "p0,0,1;", "p0,1,0;", "p0,1,100;", "p0,2,1;", "k0;", "k100;", "k999;", "r0,1;a0,1;", "r0,1;r0,1;"};
        int[] causes = {Due.INVALID, Due.INVALID, Due.INVALID, Due.INVALID, Due.INVALID, Due.IMPOSSIBLE, Due.INVALID,
            Due.INVALID, Due.INVALID, Due.INVALID, Due.INVALID, Due.INVALID, Due.INVALID, Due.INVALID, Due.INVALID,
            Due.INVALID, Due.INVALID, Due.IMPOSSIBLE, Due.IMPOSSIBLE};
        for (int k = 0; k < texts.length; k++) {
            PartedSums x = due.start("promise 26, " + texts[k]);
            x.writer(0);
            x.writer(0);
            x.add(0, 5);
            Due.type(x, texts[k]);
            due.is("fault(0)", x.fault(0), texts[k].startsWith("r0,1;") ? 5 : 0);
            due.is("fault(1)", x.fault(1), 2);
            due.is("fault(2)", x.fault(2), causes[k]);
            due.is("fault(3)", x.fault(3), Due.INVALID);
            due.is("play()", x.play(), Due.IMPOSSIBLE);
        }
    }

    private static void theFirstFaultCounts() {
        PartedSums x = due.start("promise 26, the first fault");
        Due.type(x, "n0;a0,1;t0,2;x");
        due.is("fault(0)", x.fault(0), 8);
        due.is("fault(1)", x.fault(1), 2);
        due.is("fault(2)", x.fault(2), Due.IMPOSSIBLE);
        Due.retype(x, "n0;a0,1;x;t0,2;");
        due.is("fault(0)", x.fault(0), 8);
        due.is("fault(1)", x.fault(1), 1);
        due.is("fault(2)", x.fault(2), 0);
        Due.retype(x, "n0;a0,1;t0,1;;");
        due.is("fault(0)", x.fault(0), 13);
        due.is("fault(1)", x.fault(1), 1);
        Due.retype(x, "a0,1;n0;");
        due.is("fault(0), it comes too late", x.fault(0), 0);
        due.is("fault(1)", x.fault(1), 2);
        due.is("fault(2)", x.fault(2), Due.INVALID);
        Due.retype(x, "k1;a0,1");
        due.is("fault(0), the form counts first", x.fault(0), 3);
        due.is("fault(1)", x.fault(1), 1);
        due.is("fault(2)", x.fault(2), 4);
    }

    private static void faultsOfLimits() {
        PartedSums x = due.start("promise 26, limits");
        Due.type(x, "n0;n0;n0;n0;n0;n0;n0;n0;n0;");
        due.is("fault(0)", x.fault(0), 24);
        due.is("fault(1)", x.fault(1), 2);
        due.is("fault(2)", x.fault(2), Due.LIMIT);
        Due.retype(x, "n0;n0;n0;n0;n0;n0;n0;n0;n2;");
        due.is("fault(2)", x.fault(2), Due.INVALID);
        for (int k = 0; k < 7; k++) {
            x.post(0, 1, 99);
        }
        Due.retype(x, "p1,0,1;p1,0,1;");
        due.is("fault(0)", x.fault(0), 7);
        due.is("fault(2)", x.fault(2), Due.LIMIT);
        Due.retype(x, "p1,0,1;k1;p1,0,1;");
        due.is("fault(0)", x.fault(0), Due.MISSING);
        for (int k = 0; k < 20; k++) {
            x.tick(99);
        }
        Due.retype(x, "k1;k18;k1;");
        due.is("fault(0)", x.fault(0), 7);
        due.is("fault(2)", x.fault(2), Due.LIMIT);

        PartedSums y = due.start("promise 26, a text of 60 characters");
        for (int k = 0; k < 20; k++) {
            Due.type(y, "k1;");
        }
        due.is("fault(0)", y.fault(0), Due.MISSING);
        due.is("play()", y.play(), 20);
        due.is("count(4)", y.count(4), 20);
        Due.retype(y, "k001;k001;k001;k001;k001;k001;k001;k001;k001;k001;k001;k001;");
        due.is("play()", y.play(), 12);
        Due.retype(y, "k001;k001;k001;k001;k001;k001;k001;k001;k001;k001;k001;k0011");
        due.is("fault(0)", y.fault(0), 55);
        due.is("fault(2)", y.fault(2), 4);
    }

    private static void faultsChangeNothing() {
        PartedSums x = due.start("promise 26, nothing is done");
        x.writer(0);
        Due.type(x, "n0;a0,5;k3;");
        due.is("fault(0)", x.fault(0), Due.MISSING);
        due.is("count(1)", x.count(1), 1);
        due.is("count(4)", x.count(4), 0);
        due.is("count(8)", x.count(8), 1);
        due.is("count(9)", x.count(9), 11);
        due.is("viewOf(0, 0)", x.viewOf(0, 0), 0);
        Due.type(x, "a7,1;");
        due.is("play()", x.play(), Due.IMPOSSIBLE);
        due.is("viewOf(0, 0), the orders ahead are not done", x.viewOf(0, 0), 0);
        due.is("count(8)", x.count(8), 1);
    }

    private static void textsArePlayed() {
        PartedSums x = due.start("promise 27");
        Due.type(x, "n0;n1;n0;a0,50;t2,7;p0,1,3;a1,4;r2,0;k2;p0,1,1;k1;");
        due.is("play()", x.play(), 11);
        due.is("count(9), it stays", x.count(9), 50);
        due.is("count(1)", x.count(1), 3);
        due.is("count(2)", x.count(2), 2);
        due.is("count(4)", x.count(4), 3);
        due.is("count(5)", x.count(5), 2);
        due.is("count(7), two parts, then one newer and one gone", x.count(7), 4);
        due.is("viewOf(0, 0)", x.viewOf(0, 0), 43);
        due.is("viewOf(1, 0)", x.viewOf(1, 0), 47);
        due.is("viewOf(1, 4)", x.viewOf(1, 4), 1);
        due.is("partOf(0, 0, 2)", x.partOf(0, 0, 2), 7);
        due.is("writerOf(2, 2)", x.writerOf(2, 2), 0);
        due.is("fault(0), a second time", x.fault(0), 15);
        due.is("fault(2), the writer has retired", x.fault(2), Due.IMPOSSIBLE);
        due.is("play()", x.play(), Due.IMPOSSIBLE);

        PartedSums y = due.start("promise 27, numbers of three digits");
        Due.type(y, "n001;n000;a000,999;a1,080;p001,000,010;k010;");
        due.is("play()", y.play(), 6);
        due.is("viewOf(0, 0)", y.viewOf(0, 0), 1079);
        due.is("count(4)", y.count(4), 10);
        due.is("count(5)", y.count(5), 1);
    }

    private static void playIsOneChange() {
        PartedSums x = due.start("promise 27, one change");
        x.writer(0);
        Due.type(x, "a0,1;a0,2;k1;");
        due.is("play()", x.play(), 3);
        due.is("count(8)", x.count(8), 2);
        due.is("play()", x.play(), 3);
        due.is("viewOf(0, 0)", x.viewOf(0, 0), 6);
        due.is("undo()", x.undo(), 2);
        due.is("viewOf(0, 0)", x.viewOf(0, 0), 3);
        due.is("count(4)", x.count(4), 1);
        due.is("undo()", x.undo(), 1);
        due.is("viewOf(0, 0)", x.viewOf(0, 0), 0);
        x.clearText();
        due.is("play(), no orders", x.play(), 0);
        due.is("count(8), a change still", x.count(8), 2);
        due.is("undo()", x.undo(), 1);
        due.is("count(1)", x.count(1), 1);
        for (int k = 0; k < 6; k++) {
            x.play();
        }
        due.is("count(8)", x.count(8), 4);
    }
}
