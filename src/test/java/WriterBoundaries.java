import java.util.function.Consumer;

/** The boundary cases of the promises 2 to 6: writers come, add, take, retire and move. */
final class WriterBoundaries {
    /** No writer and no view ever has these numbers; a bit that is shifted by 32 looks like that of 0. */
    static final int[] NOBODY = {-1, -2, 8, 9, 31, 32, 33, 64, 256, Integer.MAX_VALUE, Integer.MIN_VALUE};
    private static final int[] AMOUNTS_OUT = {0, -1, -999, 1000, 1001, Integer.MAX_VALUE, Integer.MIN_VALUE};

    private final Due due;

    WriterBoundaries(Due due) {
        this.due = due;
    }

    void test() {
        writersGetTheirNumbers();
        homesOfWriters();
        eightWriters();
        writersThatAddAndTake("Promise 3", "A writer adds", true);
        writersThatAddAndTake("Promise 4", "A writer takes", false);
        amounts("Promise 3", true);
        amounts("Promise 4", false);
        sumsByAdding();
        sumsByTaking();
        retiredWritersWrite();
        takingMoreThanThereIs();
        takingFromASumBelowZero();
        writersAndHeirs();
        noSuchHeirs();
        retiredHeirs();
        heirsWithOtherHomes();
        howManyHaveNotRetired();
        writersThatMove();
        movesOutOfRange();
        retiredWritersMove();
        movesToTheHome();
        movesToViewsThatKnowLess();
    }

    /** So many writers come, all to view 0. */
    static void writers(PartedSums x, int count) {
        for (int k = 0; k < count; k++) {
            x.writer(0);
        }
    }

    private static int write(PartedSums x, boolean adds, int writer, int amount) {
        return adds ? x.add(writer, amount) : x.take(writer, amount);
    }

    private static String name(boolean adds, int writer, int amount) {
        return (adds ? "add(" : "take(") + writer + ", " + amount + ")";
    }

    private void writersGetTheirNumbers() {
        PartedSums x = due.sentence("Promise 2", "Adds a writer", "Returns its number");
        for (int k = 0; k < 8; k++) {
            due.is("writer(" + k % 2 + ")", x.writer(k % 2), k);
            due.is("count(1)", x.count(1), k + 1);
        }
    }

    private void homesOfWriters() {
        due.sentence("Promise 2", "`view`: its home", "INVALID_ARGUMENT");
        Steady two = new Steady(due, x -> x.add(x.writer(1), 5));
        for (int view : NOBODY) {
            two.leaves("writer(" + view + ")", Due.INVALID, x -> x.writer(view));
        }
        two.leaves("writer(2), of two views", Due.INVALID, x -> x.writer(2));
        Steady gap = new Steady(due, x -> {
            x.view(0);
            x.drop(0);
            x.drop(1);
        });
        gap.leaves("writer(0), dropped", Due.INVALID, x -> x.writer(0));
        gap.leaves("writer(1), dropped", Due.INVALID, x -> x.writer(1));
        gap.leaves("writer(3), never made", Due.INVALID, x -> x.writer(3));

        PartedSums first = due.sentence("Promise 2", "`view`: its home");
        due.is("writer(0), the lowest view", first.writer(0), 0);
        due.is("writerOf(0, 0)", first.writerOf(0, 0), 0);
        for (int k = 2; k < 6; k++) {
            due.is("writer(" + k + "), not made yet", first.writer(k), Due.INVALID);
            due.is("view(1)", first.view(1), k);
        }
        due.is("writer(5), the greatest view", first.writer(5), 1);
        due.is("writerOf(1, 0)", first.writerOf(1, 0), 5);
        due.is("writer(6), behind it", first.writer(6), Due.INVALID);
    }

    private void eightWriters() {
        PartedSums x = due.sentence("Promise 2", "LIMIT_REACHED if there have been 8");
        writers(x, 7);
        due.is("writer(0), the eighth", x.writer(0), 7);
        due.is("writer(0), the ninth", x.writer(0), Due.LIMIT);
        due.is("undo()", x.undo(), 3);
        due.is("writer(1), the eighth again", x.writer(1), 7);

        Steady eight = new Steady(due, y -> writers(y, 8));
        eight.leaves("writer(0), the ninth", Due.LIMIT, y -> y.writer(0));
        eight.leaves("writer(1), the ninth", Due.LIMIT, y -> y.writer(1));
        eight.leaves("writer(2), the ninth, no view", Due.INVALID, y -> y.writer(2));
        Steady one = new Steady(due, y -> {
            writers(y, 8);
            for (int k = 0; k < 7; k++) {
                y.retire(k, 7);
            }
        });
        one.leaves("writer(0), seven have retired", Due.LIMIT, y -> y.writer(0));
    }

    private void writersThatAddAndTake(String promise, String words, boolean adds) {
        due.sentence(promise, words, "`writer`: number of the writer", "INVALID_ARGUMENT if an argument is out of range");
        Steady nobody = new Steady(due, x -> { });
        nobody.leaves(name(adds, 0, 1) + ", nobody", Due.INVALID, x -> write(x, adds, 0, 1));
        Steady some = new Steady(due, x -> {
            writers(x, 3);
            x.add(1, 100);
        });
        for (int writer : NOBODY) {
            some.leaves(name(adds, writer, 1), Due.INVALID, x -> write(x, adds, writer, 1));
        }
        some.leaves(name(adds, 3, 1) + ", of three", Due.INVALID, x -> write(x, adds, 3, 1));
        some.leaves(name(adds, 7, 1) + ", of three", Due.INVALID, x -> write(x, adds, 7, 1));

        PartedSums x = due.sentence(promise, "`writer`: number of the writer");
        writers(x, 8);
        x.add(3, 10);
        due.is(name(adds, 0, 1), write(x, adds, 0, 1), adds ? 11 : 9);
        due.is(name(adds, 7, 1), write(x, adds, 7, 1), adds ? 12 : 8);
        due.is(name(adds, 8, 1), write(x, adds, 8, 1), Due.INVALID);
    }

    private void amounts(String promise, boolean adds) {
        due.sentence(promise, "`amount`: 1 to 999", "INVALID_ARGUMENT if an argument is out of range");
        Consumer<PartedSums> rich = x -> {
            writers(x, 2);
            x.add(0, 999);
            x.add(0, 999);
        };
        Steady steady = new Steady(due, rich);
        for (int amount : AMOUNTS_OUT) {
            steady.leaves(name(adds, 1, amount), Due.INVALID, x -> write(x, adds, 1, amount));
        }
        for (int amount : new int[] {1, 2, 998, 999}) {
            PartedSums x = due.sentence(promise, "`amount`: 1 to 999");
            rich.accept(x);
            due.is(name(adds, 1, amount), write(x, adds, 1, amount), adds ? 1998 + amount : 1998 - amount);
            due.is("partOf(0, 1, 1)", x.partOf(0, 1, 1), adds ? amount : 0);
            due.is("partOf(0, 1, 2)", x.partOf(0, 1, 2), adds ? 0 : amount);
        }
    }

    private void sumsByAdding() {
        PartedSums x = due.sentence("Promise 3", "Returns the sum of its home then");
        x.writer(0);
        x.writer(1);
        x.writer(0);
        due.is("add(0, 5)", x.add(0, 5), 5);
        due.is("add(2, 6), with the other one's", x.add(2, 6), 11);
        due.is("add(1, 7), another home", x.add(1, 7), 7);
        x.merge(1, 0);
        due.is("add(1, 1), with what it took in", x.add(1, 1), 19);
        x.take(1, 19);
        x.take(0, 11);
        x.merge(1, 0);
        due.is("viewOf(1, 0)", x.viewOf(1, 0), -11);
        due.is("add(1, 4), below 0", x.add(1, 4), -7);
        due.is("add(1, 6), one below 0", x.add(1, 6), -1);
        due.is("add(1, 1), to 0", x.add(1, 1), 0);
        due.is("add(1, 1), above 0", x.add(1, 1), 1);
    }

    private void sumsByTaking() {
        PartedSums x = due.sentence("Promise 4", "Returns the sum of its home then");
        x.writer(0);
        x.writer(1);
        x.writer(0);
        x.add(0, 50);
        x.add(1, 70);
        due.is("take(0, 1)", x.take(0, 1), 49);
        due.is("take(2, 2), of the other one's", x.take(2, 2), 47);
        due.is("take(1, 3), another home", x.take(1, 3), 67);
        x.merge(0, 1);
        due.is("take(2, 100), of what it took in", x.take(2, 100), 14);
    }

    private void retiredWritersWrite() {
        for (boolean adds : new boolean[] {true, false}) {
            due.sentence(adds ? "Promise 3" : "Promise 4", "NOT_POSSIBLE if it has retired");
            Steady retired = new Steady(due, x -> {
                writers(x, 3);
                x.add(0, 9);
                x.retire(0, 1);
                x.view(0);
            });
            retired.leaves(name(adds, 0, 1), Due.IMPOSSIBLE, x -> write(x, adds, 0, 1));
            retired.leaves(name(adds, 0, 9), Due.IMPOSSIBLE, x -> write(x, adds, 0, 9));
            retired.leaves(name(adds, 0, 999), Due.IMPOSSIBLE, x -> write(x, adds, 0, 999));
            retired.leaves(name(adds, 0, 0), Due.INVALID, x -> write(x, adds, 0, 0));
            retired.leaves(name(adds, 0, 1000), Due.INVALID, x -> write(x, adds, 0, 1000));
            retired.leaves(name(adds, 3, 1), Due.INVALID, x -> write(x, adds, 3, 1));
        }
    }

    private void takingMoreThanThereIs() {
        due.sentence("Promise 4", "or the sum of its home is less than the amount");
        Steady empty = new Steady(due, x -> writers(x, 1));
        empty.leaves("take(0, 1), of 0", Due.IMPOSSIBLE, x -> x.take(0, 1));
        empty.leaves("take(0, 999), of 0", Due.IMPOSSIBLE, x -> x.take(0, 999));
        Steady five = new Steady(due, x -> {
            writers(x, 2);
            x.add(0, 6);
            x.take(0, 1);
            x.add(x.writer(1), 999);
        });
        five.leaves("take(0, 6), of 5", Due.IMPOSSIBLE, x -> x.take(0, 6));
        five.leaves("take(1, 6), of 5, by another one", Due.IMPOSSIBLE, x -> x.take(1, 6));
        five.leaves("take(1, 1000), of 5", Due.INVALID, x -> x.take(1, 1000));
        Steady most = new Steady(due, x -> {
            writers(x, 1);
            x.add(0, 998);
        });
        most.leaves("take(0, 999), of 998", Due.IMPOSSIBLE, x -> x.take(0, 999));

        PartedSums x = due.sentence("Promise 4", "or the sum of its home is less than the amount");
        writers(x, 2);
        x.add(0, 5);
        due.is("take(1, 5), all of 5", x.take(1, 5), 0);
        due.is("take(0, 1), of 0", x.take(0, 1), Due.IMPOSSIBLE);
        x.add(0, 999);
        due.is("take(0, 999), all of 999", x.take(0, 999), 0);
        x.add(1, 5);
        due.is("take(1, 4), all but 1", x.take(1, 4), 1);
        due.is("take(1, 1), the last one", x.take(1, 1), 0);
    }

    private void takingFromASumBelowZero() {
        due.sentence("Promise 4", "or the sum of its home is less than the amount");
        Steady below = new Steady(due, x -> {
            x.writer(0);
            x.writer(1);
            x.add(0, 3);
            x.merge(1, 0);
            x.take(0, 3);
            x.take(1, 3);
            x.merge(1, 0);
        });
        below.leaves("viewOf(1, 0)", -3, x -> x.viewOf(1, 0));
        below.leaves("take(1, 1), of -3", Due.IMPOSSIBLE, x -> x.take(1, 1));
        below.leaves("take(1, 999), of -3", Due.IMPOSSIBLE, x -> x.take(1, 999));
        below.leaves("take(0, 1), of 0", Due.IMPOSSIBLE, x -> x.take(0, 1));
    }

    private void writersAndHeirs() {
        due.sentence("Promise 5", "A writer retires", "`writer`: number of the writer",
            "`heir`: number of another writer");
        Steady two = new Steady(due, x -> {
            writers(x, 2);
            x.add(0, 7);
        });
        for (int number : NOBODY) {
            two.leaves("retire(" + number + ", 0)", Due.INVALID, x -> x.retire(number, 0));
            two.leaves("retire(0, " + number + ")", Due.INVALID, x -> x.retire(0, number));
        }
        two.leaves("retire(2, 0), of two", Due.INVALID, x -> x.retire(2, 0));
        two.leaves("retire(0, 2), of two", Due.INVALID, x -> x.retire(0, 2));
        two.leaves("retire(2, 3), of two", Due.INVALID, x -> x.retire(2, 3));

        PartedSums low = due.sentence("Promise 5", "`heir`: number of another writer");
        writers(low, 8);
        due.is("retire(0, 7)", low.retire(0, 7), 7);
        PartedSums high = due.sentence("Promise 5", "`heir`: number of another writer");
        writers(high, 8);
        due.is("retire(7, 0)", high.retire(7, 0), 7);
    }

    private void noSuchHeirs() {
        due.sentence("Promise 5", "INVALID_ARGUMENT if there is no such writer, or both are the same");
        Steady nobody = new Steady(due, x -> { });
        nobody.leaves("retire(0, 1), nobody", Due.INVALID, x -> x.retire(0, 1));
        nobody.leaves("retire(0, 0), nobody", Due.INVALID, x -> x.retire(0, 0));
        Steady two = new Steady(due, x -> {
            writers(x, 2);
            x.writer(1);
            x.retire(0, 1);
        });
        two.leaves("retire(1, 1), the same", Due.INVALID, x -> x.retire(1, 1));
        two.leaves("retire(2, 2), the same", Due.INVALID, x -> x.retire(2, 2));
        two.leaves("retire(0, 0), the same, retired", Due.INVALID, x -> x.retire(0, 0));
        two.leaves("retire(0, 3), retired, no heir", Due.INVALID, x -> x.retire(0, 3));
        two.leaves("retire(3, 0), no writer, retired heir", Due.INVALID, x -> x.retire(3, 0));
    }

    private void retiredHeirs() {
        due.sentence("Promise 5", "NOT_POSSIBLE if one of both has retired");
        Steady steady = new Steady(due, x -> {
            writers(x, 4);
            x.add(0, 3);
            x.retire(0, 1);
            x.retire(3, 1);
        });
        steady.leaves("retire(0, 1), again", Due.IMPOSSIBLE, x -> x.retire(0, 1));
        steady.leaves("retire(0, 2), to another one", Due.IMPOSSIBLE, x -> x.retire(0, 2));
        steady.leaves("retire(2, 0), to a retired one", Due.IMPOSSIBLE, x -> x.retire(2, 0));
        steady.leaves("retire(1, 0), back to it", Due.IMPOSSIBLE, x -> x.retire(1, 0));
        steady.leaves("retire(0, 3), both", Due.IMPOSSIBLE, x -> x.retire(0, 3));
    }

    private void heirsWithOtherHomes() {
        due.sentence("Promise 5", "or their homes are unlike");
        Consumer<PartedSums> apart = x -> {
            x.writer(0);
            x.writer(1);
            x.add(0, 4);
            x.merge(0, 1);
            x.merge(1, 0);
        };
        Steady steady = new Steady(due, apart);
        steady.leaves("retire(0, 1), all know all", Due.IMPOSSIBLE, x -> x.retire(0, 1));
        steady.leaves("retire(1, 0), all know all", Due.IMPOSSIBLE, x -> x.retire(1, 0));

        PartedSums x = due.sentence("Promise 5", "or their homes are unlike");
        apart.accept(x);
        x.move(0, 1);
        due.is("retire(0, 1), moved there", x.retire(0, 1), 1);
        due.is("viewOf(1, 0)", x.viewOf(1, 0), 4);
        due.is("partOf(0, 0, 1), not its home any more", x.partOf(0, 0, 1), 4);
    }

    private void howManyHaveNotRetired() {
        PartedSums x = due.sentence("Promise 5", "Returns how many writers have not retired then");
        writers(x, 8);
        for (int k = 0; k < 7; k++) {
            due.is("retire(" + k + ", " + (k + 1) + ")", x.retire(k, k + 1), 7 - k);
            due.is("count(2)", x.count(2), 7 - k);
        }
        for (int k = 0; k < 7; k++) {
            due.is("retire(7, " + k + "), the last one", x.retire(7, k), Due.IMPOSSIBLE);
        }
        due.is("count(1)", x.count(1), 8);
        due.is("viewOf(0, 4)", x.viewOf(0, 4), 7);
        due.is("viewOf(0, 6)", x.viewOf(0, 6), 128);
        due.is("partOf(0, 7, 0), one heir was raised", x.partOf(0, 7, 0), 2);
    }

    private void writersThatMove() {
        PartedSums x = due.sentence("Promise 6", "Moves a writer to another home", "Returns the home that it had");
        x.writer(0);
        for (int k = 2; k < 6; k++) {
            x.view(0);
        }
        due.is("move(0, 5)", x.move(0, 5), 0);
        due.is("move(0, 2)", x.move(0, 2), 5);
        due.is("move(0, 0)", x.move(0, 0), 2);
        due.is("writerOf(0, 0)", x.writerOf(0, 0), 0);
        due.is("writerOf(0, 1), moving writes nothing", x.writerOf(0, 1), 1);
    }

    private void movesOutOfRange() {
        due.sentence("Promise 6", "`writer`: number of the writer", "`view`: its new home", "INVALID_ARGUMENT");
        Steady steady = new Steady(due, x -> {
            writers(x, 2);
            x.view(0);
            x.view(0);
            x.drop(2);
            x.retire(1, 0);
        });
        for (int number : NOBODY) {
            steady.leaves("move(" + number + ", 3)", Due.INVALID, x -> x.move(number, 3));
            steady.leaves("move(0, " + number + ")", Due.INVALID, x -> x.move(0, number));
        }
        steady.leaves("move(2, 3), of two writers", Due.INVALID, x -> x.move(2, 3));
        steady.leaves("move(0, 2), dropped", Due.INVALID, x -> x.move(0, 2));
        steady.leaves("move(0, 4), never made", Due.INVALID, x -> x.move(0, 4));
        steady.leaves("move(0, 6), behind all", Due.INVALID, x -> x.move(0, 6));
        steady.leaves("move(1, 2), retired, dropped", Due.INVALID, x -> x.move(1, 2));

        PartedSums y = due.sentence("Promise 6", "`writer`: number of the writer", "`view`: its new home");
        writers(y, 8);
        for (int k = 2; k < 6; k++) {
            y.view(0);
        }
        due.is("move(7, 5), the greatest numbers", y.move(7, 5), 0);
        due.is("move(8, 5)", y.move(8, 5), Due.INVALID);
        due.is("move(7, 6)", y.move(7, 6), Due.INVALID);
    }

    private void retiredWritersMove() {
        due.sentence("Promise 6", "NOT_POSSIBLE if it has retired");
        Steady steady = new Steady(due, x -> {
            writers(x, 2);
            x.view(0);
            x.retire(0, 1);
            x.view(0);
        });
        steady.leaves("move(0, 0), where it was", Due.IMPOSSIBLE, x -> x.move(0, 0));
        steady.leaves("move(0, 1), not known there", Due.IMPOSSIBLE, x -> x.move(0, 1));
        steady.leaves("move(0, 2), known there still", Due.IMPOSSIBLE, x -> x.move(0, 2));
        steady.leaves("move(0, 3), not known, as in its home", Due.IMPOSSIBLE, x -> x.move(0, 3));
    }

    private void movesToTheHome() {
        due.sentence("Promise 6", "the view is its home");
        Steady steady = new Steady(due, x -> {
            x.writer(1);
            x.add(0, 2);
            x.merge(0, 1);
        });
        steady.leaves("move(0, 1)", Due.IMPOSSIBLE, x -> x.move(0, 1));
        Steady moved = new Steady(due, x -> {
            x.writer(1);
            x.merge(0, 1);
            x.move(0, 0);
        });
        moved.leaves("move(0, 0), moved there", Due.IMPOSSIBLE, x -> x.move(0, 0));
    }

    private void movesToViewsThatKnowLess() {
        due.sentence("Promise 6", "or does not know its part with the version that it has in its home");
        Consumer<PartedSums> behind = x -> {
            x.writer(0);
            x.add(0, 5);
            x.view(0);
            x.add(0, 5);
            x.post(0, 2, 1);
        };
        Steady steady = new Steady(due, behind);
        steady.leaves("move(0, 1), not known", Due.IMPOSSIBLE, x -> x.move(0, 1));
        steady.leaves("move(0, 2), one version behind", Due.IMPOSSIBLE, x -> x.move(0, 2));

        PartedSums x = due.sentence("Promise 6", "or does not know its part with the version that it has in its home");
        behind.accept(x);
        x.tick(1);
        due.is("move(0, 2), a letter told it", x.move(0, 2), 0);
        due.is("move(0, 0), back", x.move(0, 0), 2);
        x.take(0, 1);
        due.is("move(0, 2), one version behind again", x.move(0, 2), Due.IMPOSSIBLE);
        x.view(0);
        due.is("move(0, 3), a copy knows it", x.move(0, 3), 0);
        due.is("move(0, 0), as it left it", x.move(0, 0), 3);
    }
}
