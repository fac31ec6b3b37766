/** All promises: long runs of mixed calls answer what the model answers. */
public final class ModelTest {
    private static final Due due = new Due("ModelTest");
    private static final int RUNS = 1500;
    private static final int CALLS = 512;
    private static final String[] CHANGES =
        {"writer", "add", "take", "retire", "move", "view", "drop", "merge", "post", "tick"};
    /** How often out of 100 each change is chosen; by run one of these rows. */
    private static final int[][] MOODS = {
        {8, 20, 12, 5, 10, 8, 5, 15, 10, 7},
        {3, 10, 5, 5, 20, 12, 15, 20, 5, 5},
        {5, 15, 5, 8, 4, 8, 7, 8, 25, 15},
        {10, 10, 3, 15, 10, 5, 3, 20, 14, 10},
    };

    private long seed;
    private PartedSums sums;
    private Model model;

    private ModelTest(int run) {
        seed = run * 7919L + 17;
    }

    public static void main(String[] args) {
        for (int run = 0; run < RUNS; run++) {
            new ModelTest(run).run(run);
        }
        due.end();
    }

    /** A number from 0 below the bound; the same ones each time the test runs. */
    private int any(int bound) {
        seed = seed * 6364136223846793005L + 1442695040888963407L;
        return (int) ((seed >>> 33) % bound);
    }

    /** Mostly a number from 0 below the bound, seldom one around or far outside it. */
    private int about(int bound) {
        int luck = any(60);
        if (luck == 0) {
            return any(bound + 4) - 2;
        }
        if (luck == 1) {
            int[] far = {Integer.MIN_VALUE, Integer.MAX_VALUE, -1, 31, 32, 33, 64, 1 << 16};
            return far[any(far.length)];
        }
        return any(bound);
    }

    private void run(int run) {
        sums = due.start("run " + run);
        model = new Model();
        int[] mood = MOODS[run % MOODS.length];
        int calls = 0;
        while (calls < CALLS) {
            int luck = any(100);
            if (luck < 45) {
                change(mood);
                calls++;
            } else if (luck < 90) {
                ask();
                calls++;
            } else if (luck < 94) {
                due.is("undo()", sums.undo(), model.undo());
                calls++;
            } else {
                calls += text(CALLS - calls);
            }
        }
    }

    private void change(int[] mood) {
        int luck = any(100);
        int kind = 0;
        while (kind < mood.length - 1 && luck >= mood[kind]) {
            luck -= mood[kind];
            kind++;
        }
        String name = CHANGES[kind];
        boolean ofWriter = name.equals("add") || name.equals("take") || name.equals("retire") || name.equals("move");
        int writers = Math.max(1, model.count(1));
        int a = ofWriter ? about(writers) : name.equals("tick") ? ticks() : about(6);
        int b = name.equals("add") || name.equals("take") ? amount() : name.equals("retire") ? about(writers) : about(6);
        int c = ticks();
        due.is(name + "(" + a + ", " + b + ", " + c + ")", answer(name, a, b, c), model.change(name, a, b, c));
    }

    private int amount() {
        return any(3) == 0 ? about(1001) : about(30);
    }

    private int ticks() {
        return any(8) == 0 ? about(101) : about(6);
    }

    private int answer(String name, int a, int b, int c) {
        switch (name) {
            case "writer": return sums.writer(a);
            case "add": return sums.add(a, b);
            case "take": return sums.take(a, b);
            case "retire": return sums.retire(a, b);
            case "move": return sums.move(a, b);
            case "view": return sums.view(a);
            case "drop": return sums.drop(a);
            case "merge": return sums.merge(a, b);
            case "post": return sums.post(a, b, c);
            default: return sums.tick(a);
        }
    }

    private void ask() {
        int a = about(6);
        int b = about(8);
        int c = about(6);
        switch (any(12)) {
            case 0: due.is("viewOf(" + a + ", " + b + ")", sums.viewOf(a, b), model.viewOf(a, b)); break;
            case 1: due.is("partOf(" + a + ", " + b + ", " + c + ")", sums.partOf(a, b, c), model.partOf(a, b, c)); break;
            case 2: due.is("writerOf(" + b + ", " + c + ")", sums.writerOf(b, c), model.writerOf(b, c)); break;
            case 3: due.is("letterOf(" + b + ", " + c + ")", sums.letterOf(b, c), model.letterOf(b, c)); break;
            case 4: due.is("lacks(" + a + ", " + c + ", " + b % 4 + ")", sums.lacks(a, c, b % 4), model.lacks(a, c, b % 4)); break;
            case 5: due.is("whole()", sums.whole(), model.whole()); break;
            case 6: due.is("seen()", sums.seen(), model.seen()); break;
            case 7: due.is("rounds()", sums.rounds(), model.rounds()); break;
            case 8: askWould(a); break;
            case 9: due.is("latest(" + b % 3 + ")", sums.latest(b % 3), model.latest(b % 3)); break;
            case 10: askFault(about(3)); break;
            default: askCount(about(11)); break;
        }
    }

    private void askWould(int view) {
        int ticks = any(3) == 0 ? about(100) : about(6);
        due.is("would(" + view + ", " + ticks + ")", sums.would(view, ticks), model.would(view, ticks));
    }

    private void askFault(int what) {
        due.is("fault(" + what + ")", sums.fault(what), model.fault(what));
    }

    private void askCount(int what) {
        due.is("count(" + what + ")", sums.count(what), model.count(what));
    }

    /** Types an order, or something like it, plays or asks; returns how many calls it made, at most as many as are left. */
    private int text(int left) {
        int luck = any(10);
        if (luck == 0) {
            due.is("clearText()", sums.clearText(), model.clearText());
            return 1;
        }
        if (luck < 4) {
            due.is("play()", sums.play(), model.play());
            return 1;
        }
        if (luck == 4) {
            askFault(any(3));
            return 1;
        }
        if (luck == 5 && any(6) == 0) {
            int character = about(128);
            due.is("type(" + character + ")", sums.type(character), model.type(character));
            return 1;
        }
        String order = order();
        int typed = Math.min(order.length(), left);
        for (int k = 0; k < typed; k++) {
            due.is("type(" + (int) order.charAt(k) + ")", sums.type(order.charAt(k)), model.type(order.charAt(k)));
        }
        return typed;
    }

    private String order() {
        int kind = any(6);
        StringBuilder order = new StringBuilder();
        order.append("natrpk".charAt(kind));
        int numbers = kind == 0 || kind == 5 ? 1 : kind == 4 ? 3 : 2;
        for (int k = 0; k < numbers; k++) {
            boolean amount = k == 1 && (kind == 1 || kind == 2);
            int number = amount ? any(40) : any(4);
            order.append(any(9) == 0 ? "0" : "").append(number).append(k == numbers - 1 ? ';' : ',');
        }
        if (any(25) == 0) {
            order.setCharAt(any(order.length()), ",;0n a".charAt(any(6)));
        }
        if (any(40) == 0) {
            order.setLength(any(order.length()) + 1);
        }
        return order.toString();
    }
}
