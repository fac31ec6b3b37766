import java.util.function.Consumer;

/** The boundary cases of the promises 1 and 7 to 11: views are made, dropped and merged, letters come. */
final class ViewBoundaries {
    static final int[] TICKS_OUT = {-1, -99, 100, 101, 1999, Integer.MAX_VALUE, Integer.MIN_VALUE};

    private final Due due;

    ViewBoundaries(Due due) {
        this.due = due;
    }

    void test() {
        aNewObject();
        copiesOfViews();
        viewsToCopy();
        sixViews();
        viewsToDrop();
        homesAreNotDropped();
        theOnlyView();
        howManyViewsAreLeft();
        viewsToMerge();
        partsThatAreOtherOnes();
        partsThatStay();
        lettersFromAndTo();
        ticksOfLetters();
        whenLettersCome();
        eightLetters();
        ticks();
        lettersTakenIn();
        theLastTime();
    }

    /** All six views are there, and 0 is the home of the one writer, that has 5. */
    static void sixViews(PartedSums x) {
        x.writer(0);
        x.add(0, 5);
        for (int k = 2; k < 6; k++) {
            x.view(0);
        }
    }

    /** The views 0, 1 and 3 are there, 2 has been dropped; 1 knows nothing, the others that one writer has 3. */
    static void gap(PartedSums x) {
        x.add(x.writer(0), 3);
        x.view(1);
        x.view(0);
        x.drop(2);
    }

    /** The time 1980, from which 19 ticks are left. */
    static void late(PartedSums x) {
        for (int k = 0; k < 20; k++) {
            x.tick(99);
        }
    }

    private static void posts(PartedSums x, int count, int ticks) {
        for (int k = 0; k < count; k++) {
            x.post(0, 1, ticks);
        }
    }

    private void aNewObject() {
        PartedSums x = due.sentence("Promise 1", "Creates two views without writers");
        due.is("count(0)", x.count(0), 2);
        due.is("count(10)", x.count(10), 3);
        due.is("count(1)", x.count(1), 0);
        due.is("viewOf(1, 3)", x.viewOf(1, 3), 0);
        due.is("viewOf(2, 3)", x.viewOf(2, 3), Due.INVALID);
        due.is("writerOf(0, 0)", x.writerOf(0, 0), Due.INVALID);
        due.is("letterOf(0, 0)", x.letterOf(0, 0), Due.MISSING);
        due.is("fault(0)", x.fault(0), Due.MISSING);
        due.is("undo()", x.undo(), Due.IMPOSSIBLE);
        due.is("clearText()", x.clearText(), 0);
        PartedSums other = new PartedSums();
        x.writer(0);
        due.is("count(1) of another object", other.count(1), 0);
    }

    private void copiesOfViews() {
        PartedSums x = due.sentence("Promise 7", "Makes a view that knows what another one knows", "Returns its number");
        due.is("view(1), it knows nothing", x.view(1), 2);
        due.is("viewOf(2, 3)", x.viewOf(2, 3), 0);
        WriterBoundaries.writers(x, 3);
        x.add(0, 8);
        x.take(0, 3);
        x.retire(1, 2);
        x.post(1, 0, 2);
        x.post(2, 0, 1);
        x.post(0, 1, 1);
        due.is("view(0)", x.view(0), 3);
        due.is("viewOf(3, 1)", x.viewOf(3, 1), 8);
        due.is("viewOf(3, 2)", x.viewOf(3, 2), 3);
        due.is("viewOf(3, 4), graves too", x.viewOf(3, 4), 1);
        due.is("viewOf(3, 6)", x.viewOf(3, 6), 5);
        due.is("viewOf(3, 5), homes stay", x.viewOf(3, 5), 0);
        due.is("viewOf(3, 7)", x.viewOf(3, 7), 9);
        x.add(0, 1);
        due.is("viewOf(3, 0), a view of its own", x.viewOf(3, 0), 5);
        due.is("drop(3)", x.drop(3), 3);
        due.is("viewOf(0, 0), a view of its own", x.viewOf(0, 0), 6);
        due.is("view(2), where one knew more", x.view(2), 3);
        due.is("viewOf(3, 3), nothing is left of it", x.viewOf(3, 3), 0);
        due.is("viewOf(3, 4), nothing is left of it", x.viewOf(3, 4), 0);
    }

    private void viewsToCopy() {
        due.sentence("Promise 7", "`from`: number of the view", "INVALID_ARGUMENT");
        Steady steady = new Steady(due, ViewBoundaries::gap);
        for (int view : WriterBoundaries.NOBODY) {
            steady.leaves("view(" + view + ")", Due.INVALID, x -> x.view(view));
        }
        steady.leaves("view(2), dropped", Due.INVALID, x -> x.view(2));
        steady.leaves("view(4), never made", Due.INVALID, x -> x.view(4));
        steady.leaves("view(6), behind all", Due.INVALID, x -> x.view(6));
        PartedSums x = due.sentence("Promise 7", "`from`: number of the view");
        sixViews(x);
        x.drop(2);
        due.is("view(5), the greatest", x.view(5), 2);
        due.is("viewOf(2, 0)", x.viewOf(2, 0), 5);
    }

    private void sixViews() {
        due.sentence("Promise 7", "LIMIT_REACHED if there are 6");
        Steady steady = new Steady(due, ViewBoundaries::sixViews);
        for (int view = 0; view < 6; view++) {
            int from = view;
            steady.leaves("view(" + from + "), the seventh", Due.LIMIT, x -> x.view(from));
        }
        steady.leaves("view(6), the seventh, of none", Due.INVALID, x -> x.view(6));
        steady.leaves("view(-1), the seventh, of none", Due.INVALID, x -> x.view(-1));

        PartedSums x = due.sentence("Promise 7", "LIMIT_REACHED if there are 6");
        for (int k = 2; k < 6; k++) {
            due.is("view(0)", x.view(0), k);
        }
        due.is("view(0), the seventh", x.view(0), Due.LIMIT);
        x.drop(4);
        due.is("view(0), the sixth again", x.view(0), 4);
        due.is("view(0), the seventh again", x.view(0), Due.LIMIT);
        x.undo();
        due.is("view(1), the sixth once more", x.view(1), 4);
    }

    private void viewsToDrop() {
        due.sentence("Promise 8", "Drops a view", "`view`: number of the view", "INVALID_ARGUMENT");
        Steady steady = new Steady(due, ViewBoundaries::gap);
        for (int view : WriterBoundaries.NOBODY) {
            steady.leaves("drop(" + view + ")", Due.INVALID, x -> x.drop(view));
        }
        steady.leaves("drop(2), again", Due.INVALID, x -> x.drop(2));
        steady.leaves("drop(4), never made", Due.INVALID, x -> x.drop(4));
        steady.leaves("drop(6), behind all", Due.INVALID, x -> x.drop(6));
        PartedSums x = due.sentence("Promise 8", "`view`: number of the view");
        due.is("drop(0), the lowest", x.drop(0), 1);
        due.is("count(10)", x.count(10), 2);
        PartedSums y = due.sentence("Promise 8", "`view`: number of the view");
        sixViews(y);
        due.is("drop(5), the greatest", y.drop(5), 5);
        due.is("count(10)", y.count(10), 31);
    }

    private void homesAreNotDropped() {
        due.sentence("Promise 8", "NOT_POSSIBLE if it is the home of a writer that has not retired");
        Steady steady = new Steady(due, x -> {
            WriterBoundaries.writers(x, 2);
            x.merge(1, 0);
            x.retire(0, 1);
        });
        steady.leaves("drop(0), home of the heir", Due.IMPOSSIBLE, x -> x.drop(0));

        PartedSums x = due.sentence("Promise 8", "NOT_POSSIBLE if it is the home of a writer that has not retired");
        WriterBoundaries.writers(x, 3);
        x.retire(0, 1);
        x.merge(1, 0);
        x.move(1, 1);
        due.is("drop(0), home of one", x.drop(0), Due.IMPOSSIBLE);
        due.is("drop(1), home of one", x.drop(1), Due.IMPOSSIBLE);
        x.move(2, 1);
        due.is("drop(0), home of a retired one alone", x.drop(0), 1);
        due.is("writerOf(0, 2)", x.writerOf(0, 2), 1);
        due.is("view(1), where its home was", x.view(1), 0);
        due.is("viewOf(0, 5)", x.viewOf(0, 5), 0);
        due.is("drop(0)", x.drop(0), 1);
    }

    private void theOnlyView() {
        due.sentence("Promise 8", "NOT_POSSIBLE if it is the home of a writer that has not retired, or the only one");
        Steady zero = new Steady(due, x -> x.drop(1));
        zero.leaves("drop(0), the only one", Due.IMPOSSIBLE, x -> x.drop(0));
        zero.leaves("drop(1), dropped", Due.INVALID, x -> x.drop(1));
        Steady one = new Steady(due, x -> x.drop(0));
        one.leaves("drop(1), the only one", Due.IMPOSSIBLE, x -> x.drop(1));
        Steady home = new Steady(due, x -> {
            x.writer(0);
            x.drop(1);
        });
        home.leaves("drop(0), the only one, a home", Due.IMPOSSIBLE, x -> x.drop(0));
        PartedSums x = due.sentence("Promise 8", "or the only one");
        x.drop(1);
        x.view(0);
        due.is("drop(0), one of two again", x.drop(0), 1);
        due.is("drop(1), the only one", x.drop(1), Due.IMPOSSIBLE);
    }

    private void howManyViewsAreLeft() {
        PartedSums x = due.sentence("Promise 8", "Returns how many there are then");
        for (int k = 2; k < 6; k++) {
            x.view(0);
        }
        for (int k = 5; k > 0; k--) {
            due.is("drop(" + k + ")", x.drop(k), k);
            due.is("count(0)", x.count(0), k);
            due.is("viewOf(" + k + ", 0)", x.viewOf(k, 0), Due.INVALID);
        }
        due.is("drop(0)", x.drop(0), Due.IMPOSSIBLE);
    }

    private void viewsToMerge() {
        due.sentence("Promise 9", "`to`: number of the view", "`from`: number of the other one",
            "INVALID_ARGUMENT if there is no such view, or both are the same");
        Steady steady = new Steady(due, ViewBoundaries::gap);
        for (int view : WriterBoundaries.NOBODY) {
            steady.leaves("merge(1, " + view + ")", Due.INVALID, x -> x.merge(1, view));
            steady.leaves("merge(" + view + ", 0)", Due.INVALID, x -> x.merge(view, 0));
        }
        for (int view : new int[] {0, 1, 3}) {
            steady.leaves("merge(" + view + ", " + view + ")", Due.INVALID, x -> x.merge(view, view));
        }
        steady.leaves("merge(1, 2), dropped", Due.INVALID, x -> x.merge(1, 2));
        steady.leaves("merge(2, 0), dropped", Due.INVALID, x -> x.merge(2, 0));
        steady.leaves("merge(2, 2), dropped", Due.INVALID, x -> x.merge(2, 2));
        steady.leaves("merge(4, 0), never made", Due.INVALID, x -> x.merge(4, 0));
        PartedSums x = due.sentence("Promise 9", "`to`: number of the view", "`from`: number of the other one");
        sixViews(x);
        x.add(0, 1);
        due.is("merge(5, 0), the greatest", x.merge(5, 0), 1);
        x.merge(1, 0);
        x.move(0, 1);
        x.add(0, 1);
        x.merge(5, 1);
        due.is("merge(0, 5), the lowest", x.merge(0, 5), 1);
        due.is("viewOf(0, 0)", x.viewOf(0, 0), 7);
    }

    private void partsThatAreOtherOnes() {
        PartedSums x = due.sentence("Promise 9", "Lets a view take in at once what another one knows",
            "Returns how many parts of it are other ones then, new ones or gone");
        due.is("merge(0, 1), none", x.merge(0, 1), 0);
        WriterBoundaries.writers(x, 8);
        due.is("merge(1, 0), eight new ones", x.merge(1, 0), 8);
        due.is("merge(1, 0), none", x.merge(1, 0), 0);
        x.add(4, 1);
        due.is("merge(1, 0), another one", x.merge(1, 0), 1);
        due.is("viewOf(1, 0)", x.viewOf(1, 0), 1);
        for (int k = 0; k < 7; k++) {
            x.retire(k, k + 1);
        }
        x.view(0);
        due.is("merge(1, 0), seven gone and another one", x.merge(1, 0), 8);
        due.is("merge(1, 0), none", x.merge(1, 0), 0);
        due.is("count(7)", x.count(7), 17);
    }

    private void partsThatStay() {
        PartedSums x = due.sentence("Promise 9", "Returns how many parts of it are other ones then, new ones or gone");
        WriterBoundaries.writers(x, 2);
        x.merge(1, 0);
        x.view(0);
        x.add(0, 1);
        due.is("merge(0, 1), it knows a newer one", x.merge(0, 1), 0);
        x.retire(0, 1);
        x.drop(1);
        x.view(0);
        due.is("merge(1, 2), a grave there", x.merge(1, 2), 0);
        due.is("viewOf(1, 6)", x.viewOf(1, 6), 2);

        PartedSums y = due.sentence("Promise 9", "Returns how many parts of it are other ones then, new ones or gone");
        WriterBoundaries.writers(y, 2);
        y.retire(0, 1);
        due.is("merge(1, 0), a part that is not known is not gone", y.merge(1, 0), 1);
        due.is("viewOf(1, 4)", y.viewOf(1, 4), 1);
    }

    private void lettersFromAndTo() {
        due.sentence("Promise 10", "`from`: number of a view", "`to`: number of another one",
            "INVALID_ARGUMENT if an argument is out of range, or both are the same");
        Steady steady = new Steady(due, x -> {
            gap(x);
            x.post(0, 1, 4);
        });
        for (int view : WriterBoundaries.NOBODY) {
            steady.leaves("post(1, " + view + ", 1)", Due.INVALID, x -> x.post(1, view, 1));
            steady.leaves("post(" + view + ", 0, 1)", Due.INVALID, x -> x.post(view, 0, 1));
        }
        for (int view : new int[] {0, 1, 3}) {
            steady.leaves("post(" + view + ", " + view + ", 1)", Due.INVALID, x -> x.post(view, view, 1));
        }
        steady.leaves("post(1, 2, 1), dropped", Due.INVALID, x -> x.post(1, 2, 1));
        steady.leaves("post(2, 0, 1), dropped", Due.INVALID, x -> x.post(2, 0, 1));
        steady.leaves("post(4, 0, 1), never made", Due.INVALID, x -> x.post(4, 0, 1));
        PartedSums x = due.sentence("Promise 10",
            "Posts a letter", "`from`: number of a view", "`to`: number of another one");
        sixViews(x);
        x.add(0, 1);
        due.is("post(0, 5, 1)", x.post(0, 5, 1), 1);
        due.is("post(5, 0, 1)", x.post(5, 0, 1), 1);
        due.is("tick(1)", x.tick(1), 2);
        due.is("viewOf(5, 0)", x.viewOf(5, 0), 6);
    }

    private void ticksOfLetters() {
        due.sentence("Promise 10", "`ticks`: 1 to 99", "INVALID_ARGUMENT if an argument is out of range");
        Steady steady = new Steady(due, x -> x.add(x.writer(0), 3));
        for (int ticks : TICKS_OUT) {
            steady.leaves("post(0, 1, " + ticks + ")", Due.INVALID, x -> x.post(0, 1, ticks));
        }
        steady.leaves("post(0, 1, 0)", Due.INVALID, x -> x.post(0, 1, 0));
        PartedSums x = due.sentence("Promise 10", "`ticks`: 1 to 99");
        for (int ticks : new int[] {1, 2, 98, 99}) {
            due.is("post(0, 1, " + ticks + ")", x.post(0, 1, ticks), ticks);
        }
        due.is("count(3)", x.count(3), 4);
    }

    private void whenLettersCome() {
        PartedSums x = due.sentence("Promise 10", "Returns the time at which it comes");
        due.is("post(0, 1, 5), from the time 0", x.post(0, 1, 5), 5);
        x.tick(4);
        due.is("post(0, 1, 1)", x.post(0, 1, 1), 5);
        due.is("tick(1), both come", x.tick(1), 2);
        late(x);
        due.is("count(4)", x.count(4), 1985);
        due.is("post(0, 1, 14), the last time", x.post(0, 1, 14), 1999);
        due.is("post(0, 1, 15), behind the last time", x.post(0, 1, 15), 2000);
        x.tick(14);
        due.is("post(0, 1, 99), at the last time", x.post(0, 1, 99), 2098);
    }

    private void eightLetters() {
        due.sentence("Promise 10", "LIMIT_REACHED if 8 letters are on their way");
        Consumer<PartedSums> full = x -> {
            x.add(x.writer(0), 3);
            posts(x, 8, 2);
        };
        Steady steady = new Steady(due, full);
        steady.leaves("post(0, 1, 1), the ninth", Due.LIMIT, x -> x.post(0, 1, 1));
        steady.leaves("post(1, 0, 99), the ninth", Due.LIMIT, x -> x.post(1, 0, 99));
        steady.leaves("post(0, 1, 0), the ninth", Due.INVALID, x -> x.post(0, 1, 0));
        steady.leaves("post(0, 1, 100), the ninth", Due.INVALID, x -> x.post(0, 1, 100));
        steady.leaves("post(0, 0, 1), the ninth", Due.INVALID, x -> x.post(0, 0, 1));
        steady.leaves("post(0, 2, 1), the ninth", Due.INVALID, x -> x.post(0, 2, 1));
        steady.leaves("post(2, 0, 1), the ninth", Due.INVALID, x -> x.post(2, 0, 1));
        Steady lost = new Steady(due, x -> {
            full.accept(x);
            x.drop(1);
            x.view(0);
        });
        lost.leaves("post(0, 1, 1), all eight will be lost", Due.LIMIT, x -> x.post(0, 1, 1));

        PartedSums x = due.sentence("Promise 10", "LIMIT_REACHED if 8 letters are on their way");
        posts(x, 6, 9);
        due.is("post(0, 1, 1), the seventh", x.post(0, 1, 1), 1);
        due.is("post(1, 0, 9), the eighth", x.post(1, 0, 9), 9);
        due.is("post(1, 0, 9), the ninth", x.post(1, 0, 9), Due.LIMIT);
        x.tick(1);
        due.is("post(1, 0, 9), the eighth again", x.post(1, 0, 9), 10);
        due.is("post(1, 0, 9), the ninth again", x.post(1, 0, 9), Due.LIMIT);
        x.undo();
        due.is("post(1, 0, 7), the eighth once more", x.post(1, 0, 7), 8);
    }

    private void ticks() {
        due.sentence("Promise 11", "Lets ticks pass", "`ticks`: 1 to 99", "INVALID_ARGUMENT if ticks is out of range");
        Steady steady = new Steady(due, x -> {
            x.add(x.writer(0), 3);
            x.post(0, 1, 1);
        });
        for (int ticks : TICKS_OUT) {
            steady.leaves("tick(" + ticks + ")", Due.INVALID, x -> x.tick(ticks));
        }
        steady.leaves("tick(0)", Due.INVALID, x -> x.tick(0));
        PartedSums x = due.sentence("Promise 11", "`ticks`: 1 to 99");
        int time = 0;
        for (int ticks : new int[] {1, 2, 98, 99}) {
            due.is("tick(" + ticks + ")", x.tick(ticks), 0);
            time += ticks;
            due.is("count(4)", x.count(4), time);
        }
    }

    private void lettersTakenIn() {
        PartedSums x = due.sentence("Promise 11", "Returns how many letters are taken in");
        due.is("tick(1), none", x.tick(1), 0);
        posts(x, 8, 3);
        due.is("tick(2), one too early", x.tick(2), 0);
        due.is("tick(1), all eight", x.tick(1), 8);
        due.is("tick(1), none is left", x.tick(1), 0);
        x.post(0, 1, 1);
        x.post(0, 1, 2);
        x.post(0, 1, 3);
        x.post(1, 0, 4);
        due.is("tick(3), those on the way there", x.tick(3), 3);
        due.is("count(3)", x.count(3), 1);
        x.view(0);
        x.post(0, 2, 1);
        x.drop(2);
        due.is("tick(1), one taken in, one lost", x.tick(1), 1);
        due.is("count(5)", x.count(5), 12);
        due.is("count(6)", x.count(6), 1);
        posts(x, 8, 1);
        x.drop(1);
        due.is("tick(99), all eight lost", x.tick(99), 0);
        due.is("count(6)", x.count(6), 9);
    }

    private void theLastTime() {
        due.sentence("Promise 11", "LIMIT_REACHED if the time would be above 1999");
        Steady near = new Steady(due, x -> {
            x.add(x.writer(0), 3);
            late(x);
            x.post(0, 1, 19);
            x.post(0, 1, 20);
        });
        near.leaves("tick(20), to 2000", Due.LIMIT, x -> x.tick(20));
        near.leaves("tick(99), to 2079", Due.LIMIT, x -> x.tick(99));
        near.leaves("tick(100)", Due.INVALID, x -> x.tick(100));
        near.leaves("tick(MAX)", Due.INVALID, x -> x.tick(Integer.MAX_VALUE));
        Steady end = new Steady(due, x -> {
            late(x);
            x.tick(19);
            x.post(0, 1, 1);
        });
        end.leaves("tick(1), to 2000", Due.LIMIT, x -> x.tick(1));
        end.leaves("tick(0)", Due.INVALID, x -> x.tick(0));
        end.leaves("tick(100)", Due.INVALID, x -> x.tick(100));

        PartedSums x = due.sentence("Promise 11", "LIMIT_REACHED if the time would be above 1999");
        late(x);
        posts(x, 2, 19);
        due.is("tick(18), to 1998", x.tick(18), 0);
        due.is("tick(2), to 2000", x.tick(2), Due.LIMIT);
        due.is("tick(1), to 1999", x.tick(1), 2);
        due.is("count(4)", x.count(4), 1999);
        PartedSums y = due.sentence("Promise 11", "LIMIT_REACHED if the time would be above 1999");
        for (int k = 0; k < 19; k++) {
            y.tick(99);
        }
        y.tick(19);
        due.is("tick(99), to 1999", y.tick(99), 0);
        due.is("count(4)", y.count(4), 1999);
        y.undo();
        y.tick(1);
        due.is("tick(99), to 2000", y.tick(99), Due.LIMIT);
    }
}
