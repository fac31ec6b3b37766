import java.util.ArrayList;
import java.util.List;
import java.util.function.Consumer;
import java.util.function.ToIntFunction;

/**
 * Makes objects that all have had the same calls, and holds one call against the promise that it
 * changes nothing: behind it, all that can be asked answers as it does without it, undone or not.
 */
final class Steady {
    private static final int UNDOS = 4;

    private final Due due;
    private final Consumer<PartedSums> ahead;
    private final List<List<String>> untouched = new ArrayList<>();

    Steady(Due due, Consumer<PartedSums> ahead) {
        this.due = due;
        this.ahead = ahead;
        for (int undos = 0; undos <= UNDOS; undos++) {
            untouched.add(trace(made(), undos));
        }
    }

    private PartedSums made() {
        PartedSums x = new PartedSums();
        ahead.accept(x);
        return x;
    }

    /** The call answers this, and changes nothing. */
    void leaves(String words, int want, ToIntFunction<PartedSums> call) {
        for (int undos = 0; undos <= UNDOS; undos++) {
            PartedSums x = made();
            due.is(words, call.applyAsInt(x), want);
            List<String> then = trace(x, undos);
            for (int k = 0; k < then.size(); k++) {
                due.same(words + ", then " + undos + " undos, then", then.get(k), untouched.get(undos).get(k));
            }
        }
    }

    /** All that can be asked behind some undos: some 330 calls, of the 512 that an object may have. */
    private static List<String> trace(PartedSums x, int undos) {
        List<String> trace = new ArrayList<>();
        for (int k = 0; k < undos; k++) {
            note(trace, "undo", x.undo());
        }
        noteViews(trace, x);
        noteWriters(trace, x);
        noteLetters(trace, x);
        noteCounts(trace, x);
        note(trace, "play", x.play());
        note(trace, "count(4)", x.count(4));
        note(trace, "whole", x.whole());
        note(trace, "count(8)", x.count(8));
        note(trace, "type", x.type('k'));
        return trace;
    }

    private static void note(List<String> trace, String call, int answer) {
        trace.add(call + " answers " + answer);
    }

    private static void noteViews(List<String> trace, PartedSums x) {
        for (int view = 0; view < 6; view++) {
            for (int what = 0; what < 8; what++) {
                note(trace, "viewOf(" + view + ", " + what + ")", x.viewOf(view, what));
            }
            for (int writer = 0; writer < 8; writer++) {
                for (int what = 0; what < 3; what++) {
                    note(trace, "partOf(" + view + ", " + writer + ", " + what + ")", x.partOf(view, writer, what));
                }
            }
            note(trace, "would(" + view + ", 99)", x.would(view, 99));
        }
    }

    private static void noteWriters(List<String> trace, PartedSums x) {
        for (int writer = 0; writer < 8; writer++) {
            for (int what = 0; what < 5; what++) {
                note(trace, "writerOf(" + writer + ", " + what + ")", x.writerOf(writer, what));
            }
        }
    }

    private static void noteLetters(List<String> trace, PartedSums x) {
        for (int index = 0; index < 8; index++) {
            for (int what = 0; what < 5; what++) {
                note(trace, "letterOf(" + index + ", " + what + ")", x.letterOf(index, what));
            }
        }
    }

    private static void noteCounts(List<String> trace, PartedSums x) {
        for (int what = 0; what < 11; what++) {
            note(trace, "count(" + what + ")", x.count(what));
        }
        for (int what = 0; what < 3; what++) {
            note(trace, "fault(" + what + ")", x.fault(what));
        }
        note(trace, "latest(0)", x.latest(0));
        note(trace, "latest(1)", x.latest(1));
        note(trace, "whole", x.whole());
        note(trace, "seen", x.seen());
        note(trace, "rounds", x.rounds());
    }
}
