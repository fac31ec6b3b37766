import java.util.ArrayDeque;
import java.util.ArrayList;
import java.util.Deque;
import java.util.HashMap;
import java.util.List;
import java.util.Map;
import java.util.Objects;
import java.util.Set;
import java.util.TreeMap;
import java.util.TreeSet;
import java.util.regex.Matcher;
import java.util.regex.Pattern;

/**
 * The document once more, written another way: with maps, values that never change, ticks one by
 * one, and orders as a regular expression. Slow, and wasteful of objects.
 */
final class Model {
    private static final int INVALID = Due.INVALID;
    private static final int IMPOSSIBLE = Due.IMPOSSIBLE;
    private static final int LIMIT = Due.LIMIT;
    private static final int MISSING = Due.MISSING;
    private static final Pattern ORDER = Pattern.compile("[nk](\\d{1,3});|[atr](\\d{1,3}),(\\d{1,3});"
        + "|p(\\d{1,3}),(\\d{1,3}),(\\d{1,3});");

    record Part(int version, int added, int taken) { }

    /** What is known; never changed once it is made. */
    record Known(Map<Integer, Part> parts, Set<Integer> graves) {
        Known with(int writer, Part part) {
            Map<Integer, Part> then = new TreeMap<>(parts);
            then.put(writer, part);
            return new Known(then, graves);
        }

        Known merged(Known other) {
            Set<Integer> allGraves = new TreeSet<>(graves);
            allGraves.addAll(other.graves);
            Map<Integer, Part> all = new TreeMap<>(parts);
            other.parts.forEach((writer, part) -> all.merge(writer, part,
                (one, two) -> one.version() >= two.version() ? one : two));
            all.keySet().removeAll(allGraves);
            return new Known(all, allGraves);
        }

        int changes(Known before) {
            Set<Integer> writers = new TreeSet<>(parts.keySet());
            writers.addAll(before.parts.keySet());
            return (int) writers.stream()
                .filter(writer -> !Objects.equals(parts.get(writer), before.parts.get(writer))).count();
        }

        int allAdded() {
            return parts.values().stream().mapToInt(Part::added).sum();
        }

        int allTaken() {
            return parts.values().stream().mapToInt(Part::taken).sum();
        }

        int sum() {
            return allAdded() - allTaken();
        }
    }

    /** The view itself tells whether it has been dropped: its object is in the map no more. */
    static final class View {
        Known known;

        View(Known known) {
            this.known = known;
        }
    }

    record Letter(int from, int to, View receiver, int time, Known told) { }

    static final class State {
        final TreeMap<Integer, View> views = new TreeMap<>();
        final List<Integer> homes = new ArrayList<>();
        final Map<Integer, Integer> heirs = new HashMap<>();
        final List<Letter> letters = new ArrayList<>();
        int time;
        int takenIn;
        int lost;
        int changed;

        State copy() {
            State copy = new State();
            Map<View, View> images = new HashMap<>();
            views.forEach((number, view) -> {
                View image = new View(view.known);
                images.put(view, image);
                copy.views.put(number, image);
            });
            copy.homes.addAll(homes);
            copy.heirs.putAll(heirs);
            letters.forEach(letter -> copy.letters.add(new Letter(letter.from(), letter.to(),
                images.get(letter.receiver()), letter.time(), letter.told())));
            copy.time = time;
            copy.takenIn = takenIn;
            copy.lost = lost;
            copy.changed = changed;
            return copy;
        }

        boolean isLost(Letter letter) {
            return letter.receiver() == null || !views.containsValue(letter.receiver());
        }

        List<Letter> lettersInOrder() {
            List<Letter> ordered = new ArrayList<>(letters);
            ordered.sort((one, two) -> Integer.compare(one.time(), two.time()));
            return ordered;
        }

        boolean active(int writer) {
            return !heirs.containsKey(writer);
        }

        boolean hasWriter(int writer) {
            return writer >= 0 && writer < homes.size();
        }

        Known known(int view) {
            return views.get(view).known;
        }

        Known home(int writer) {
            return known(homes.get(writer));
        }
    }

    private State state = new State();
    private final Deque<State> history = new ArrayDeque<>();
    private String text = "";

    Model() {
        state.views.put(0, new View(new Known(Map.of(), Set.of())));
        state.views.put(1, new View(new Known(Map.of(), Set.of())));
    }

    private static boolean error(int answer) {
        return answer <= INVALID && answer >= MISSING;
    }

    int change(String name, int a, int b, int c) {
        State before = state.copy();
        int answer = perform(state, name, a, b, c);
        if (!error(answer)) {
            record(before);
        } else {
            state = before;
        }
        return answer;
    }

    private void record(State before) {
        history.addLast(before);
        if (history.size() > 4) {
            history.removeFirst();
        }
    }

    private static int perform(State s, String name, int a, int b, int c) {
        switch (name) {
            case "writer": return writer(s, a);
            case "add": return write(s, a, b, 1);
            case "take": return write(s, a, b, -1);
            case "retire": return retire(s, a, b);
            case "move": return move(s, a, b);
            case "view": return view(s, a);
            case "drop": return drop(s, a);
            case "merge": return merge(s, a, b);
            case "post": return post(s, a, b, c);
            case "tick": return tick(s, a);
            default: throw new IllegalArgumentException(name);
        }
    }

    private static int writer(State s, int view) {
        if (!s.views.containsKey(view)) {
            return INVALID;
        }
        if (s.homes.size() == 8) {
            return LIMIT;
        }
        int number = s.homes.size();
        s.homes.add(view);
        s.views.get(view).known = s.known(view).with(number, new Part(1, 0, 0));
        return number;
    }

    private static int write(State s, int writer, int amount, int sign) {
        if (!s.hasWriter(writer) || amount < 1 || amount > 999) {
            return INVALID;
        }
        if (!s.active(writer) || sign < 0 && s.home(writer).sum() < amount) {
            return IMPOSSIBLE;
        }
        Part old = s.home(writer).parts().get(writer);
        Part part = sign > 0 ? new Part(old.version() + 1, old.added() + amount, old.taken())
            : new Part(old.version() + 1, old.added(), old.taken() + amount);
        s.views.get(s.homes.get(writer)).known = s.home(writer).with(writer, part);
        return s.home(writer).sum();
    }

    private static int retire(State s, int writer, int heir) {
        if (!s.hasWriter(writer) || !s.hasWriter(heir) || writer == heir) {
            return INVALID;
        }
        if (!s.active(writer) || !s.active(heir) || !s.homes.get(writer).equals(s.homes.get(heir))) {
            return IMPOSSIBLE;
        }
        Known home = s.home(writer);
        Part left = home.parts().get(writer);
        Part had = home.parts().get(heir);
        Part has = new Part(had.version() + 1, had.added() + left.added(), had.taken() + left.taken());
        s.views.get(s.homes.get(writer)).known = home.with(heir, has).merged(new Known(Map.of(), Set.of(writer)));
        s.heirs.put(writer, heir);
        return s.homes.size() - s.heirs.size();
    }

    private static int move(State s, int writer, int view) {
        if (!s.hasWriter(writer) || !s.views.containsKey(view)) {
            return INVALID;
        }
        if (!s.active(writer) || s.homes.get(writer) == view
            || !s.home(writer).parts().get(writer).equals(s.known(view).parts().get(writer))) {
            return IMPOSSIBLE;
        }
        return s.homes.set(writer, view);
    }

    private static int view(State s, int from) {
        if (!s.views.containsKey(from)) {
            return INVALID;
        }
        for (int number = 0; number < 6; number++) {
            if (!s.views.containsKey(number)) {
                s.views.put(number, new View(s.known(from)));
                return number;
            }
        }
        return LIMIT;
    }

    private static int drop(State s, int view) {
        if (!s.views.containsKey(view)) {
            return INVALID;
        }
        for (int writer = 0; writer < s.homes.size(); writer++) {
            if (s.active(writer) && s.homes.get(writer) == view) {
                return IMPOSSIBLE;
            }
        }
        if (s.views.size() == 1) {
            return IMPOSSIBLE;
        }
        s.views.remove(view);
        return s.views.size();
    }

    private static int merge(State s, int to, int from) {
        if (!s.views.containsKey(to) || !s.views.containsKey(from) || to == from) {
            return INVALID;
        }
        return takeIn(s, s.views.get(to), s.known(from));
    }

    private static int takeIn(State s, View to, Known told) {
        Known then = to.known.merged(told);
        int changes = then.changes(to.known);
        to.known = then;
        s.changed += changes;
        return changes;
    }

    private static int post(State s, int from, int to, int ticks) {
        if (!s.views.containsKey(from) || !s.views.containsKey(to) || from == to || ticks < 1 || ticks > 99) {
            return INVALID;
        }
        if (s.letters.size() == 8) {
            return LIMIT;
        }
        s.letters.add(new Letter(from, to, s.views.get(to), s.time + ticks, s.known(from)));
        return s.time + ticks;
    }

    private static int tick(State s, int ticks) {
        if (ticks < 1 || ticks > 99) {
            return INVALID;
        }
        if (s.time + ticks > 1999) {
            return LIMIT;
        }
        return passTicks(s, ticks);
    }

    private static int passTicks(State s, int ticks) {
        int takenIn = 0;
        for (int k = 0; k < ticks; k++) {
            s.time++;
            for (Letter letter : List.copyOf(s.letters)) {
                if (letter.time() == s.time) {
                    s.letters.remove(letter);
                    if (s.isLost(letter)) {
                        s.lost++;
                    } else {
                        takeIn(s, letter.receiver(), letter.told());
                        takenIn++;
                    }
                }
            }
        }
        s.takenIn += takenIn;
        return takenIn;
    }

    private static int bits(Iterable<Integer> numbers) {
        int bits = 0;
        for (int number : numbers) {
            bits |= 1 << number;
        }
        return bits;
    }

    int viewOf(int view, int what) {
        if (!state.views.containsKey(view) || what < 0 || what > 7) {
            return INVALID;
        }
        Known known = state.known(view);
        List<Integer> set = new ArrayList<>();
        switch (what) {
            case 0: return known.sum();
            case 1: return known.allAdded();
            case 2: return known.allTaken();
            case 3: return known.parts().size();
            case 4: return known.graves().size();
            case 5:
                for (int writer = 0; writer < state.homes.size(); writer++) {
                    if (state.active(writer) && state.homes.get(writer) == view) {
                        set.add(writer);
                    }
                }
                return bits(set);
            case 6: return bits(known.parts().keySet());
            default:
                state.views.forEach((number, other) -> {
                    if (other.known.equals(known)) {
                        set.add(number);
                    }
                });
                return bits(set);
        }
    }

    int partOf(int view, int writer, int what) {
        if (!state.views.containsKey(view) || !state.hasWriter(writer) || what < 0 || what > 2) {
            return INVALID;
        }
        Part part = state.known(view).parts().get(writer);
        if (part == null) {
            return MISSING;
        }
        return what == 0 ? part.version() : what == 1 ? part.added() : part.taken();
    }

    int writerOf(int writer, int what) {
        if (!state.hasWriter(writer) || what < 0 || what > 4) {
            return INVALID;
        }
        if (what == 2) {
            return state.heirs.getOrDefault(writer, MISSING);
        }
        List<Integer> set = new ArrayList<>();
        if (what == 4) {
            state.views.forEach((number, view) -> {
                if (view.known.graves().contains(writer)) {
                    set.add(number);
                }
            });
            return bits(set);
        }
        if (!state.active(writer)) {
            return MISSING;
        }
        if (what == 0) {
            return state.homes.get(writer);
        }
        Part part = state.home(writer).parts().get(writer);
        if (what == 1) {
            return part.version();
        }
        state.views.forEach((number, view) -> {
            if (part.equals(view.known.parts().get(writer))) {
                set.add(number);
            }
        });
        return bits(set);
    }

    int letterOf(int index, int what) {
        if (index < 0 || what < 0 || what > 4) {
            return INVALID;
        }
        if (index >= state.letters.size()) {
            return MISSING;
        }
        Letter letter = state.lettersInOrder().get(index);
        switch (what) {
            case 0: return letter.from();
            case 1: return letter.to();
            case 2: return letter.time() - state.time;
            case 3: return letter.told().sum();
            default: return state.isLost(letter) ? 1 : 0;
        }
    }

    int lacks(int view, int other, int what) {
        if (!state.views.containsKey(view) || !state.views.containsKey(other) || view == other
            || what < 0 || what > 2) {
            return INVALID;
        }
        Known then = state.known(view).merged(state.known(other));
        switch (what) {
            case 0: return then.changes(state.known(view));
            case 1: return then.sum() - state.known(view).sum();
            default: return then.equals(state.known(other)) ? 1 : 0;
        }
    }

    int whole() {
        Known all = new Known(Map.of(), Set.of());
        for (View view : state.views.values()) {
            all = all.merged(view.known);
        }
        return all.sum();
    }

    int seen() {
        int sum = 0;
        for (int writer = 0; writer < state.homes.size(); writer++) {
            Part least = null;
            boolean byAll = true;
            for (View view : state.views.values()) {
                Part part = view.known.parts().get(writer);
                byAll &= part != null;
                if (part != null && (least == null || part.version() < least.version())) {
                    least = part;
                }
            }
            sum += byAll && least != null ? least.added() - least.taken() : 0;
        }
        return sum;
    }

    int rounds() {
        List<Known> ring = new ArrayList<>();
        state.views.values().forEach(view -> ring.add(view.known));
        int merges = 0;
        while (Set.copyOf(ring).size() > 1) {
            int turn = merges % ring.size();
            ring.set(turn, ring.get(turn).merged(ring.get((turn + 1) % ring.size())));
            merges++;
        }
        return merges;
    }

    int would(int view, int ticks) {
        if (!state.views.containsKey(view) || ticks < 0 || ticks > 99) {
            return INVALID;
        }
        State then = state.copy();
        passTicks(then, ticks);
        return then.known(view).sum();
    }

    int latest(int what) {
        if (what < 0 || what > 1) {
            return INVALID;
        }
        int latest = -1;
        int most = -1;
        for (int view : state.views.keySet()) {
            int parts = 0;
            for (int other : state.views.keySet()) {
                parts += view == other ? 0 : lacks(view, other, 0);
            }
            if (parts > most) {
                latest = view;
                most = parts;
            }
        }
        return what == 0 ? latest : most;
    }

    int count(int what) {
        int[] counts = {state.views.size(), state.homes.size(), state.homes.size() - state.heirs.size(),
            state.letters.size(), state.time, state.takenIn, state.lost, state.changed, history.size(),
            text.length(), bits(state.views.keySet())};
        return what < 0 || what >= counts.length ? INVALID : counts[what];
    }

    int undo() {
        if (history.isEmpty()) {
            return IMPOSSIBLE;
        }
        state = history.removeLast();
        return history.size();
    }

    int type(int character) {
        if (character < 32 || character > 126) {
            return INVALID;
        }
        if (text.length() == 60) {
            return LIMIT;
        }
        text += (char) character;
        return text.length();
    }

    int clearText() {
        int length = text.length();
        text = "";
        return length;
    }

    int fault(int what) {
        if (what < 0 || what > 2) {
            return INVALID;
        }
        int[] fault = run(state.copy());
        return fault.length == 1 ? MISSING : fault[what];
    }

    int play() {
        State then = state.copy();
        int[] fault = run(then);
        if (fault.length != 1) {
            return IMPOSSIBLE;
        }
        record(state);
        state = then;
        return fault[0];
    }

    /** Returns how many orders were done, or position, reason and cause of the fault. */
    private int[] run(State s) {
        int orders = 0;
        int start = 0;
        while (start < text.length()) {
            Matcher order = ORDER.matcher(text).region(start, text.length());
            if (!order.lookingAt()) {
                return new int[] {start, 1, breaksOff(text.substring(start))};
            }
            int answer = doOrder(s, order.group());
            if (error(answer)) {
                return new int[] {start, 2, answer};
            }
            orders++;
            start = order.end();
        }
        return new int[] {orders};
    }

    /** The length of the longest beginning that could still become an order. */
    private static int breaksOff(String order) {
        int length = 0;
        while (length < order.length()) {
            Matcher matcher = ORDER.matcher(order.substring(0, length + 1));
            if (!matcher.matches() && !matcher.hitEnd()) {
                return length;
            }
            length++;
        }
        return length;
    }

    private static int doOrder(State s, String order) {
        String[] words = order.substring(1, order.length() - 1).split(",");
        int[] numbers = new int[3];
        for (int k = 0; k < words.length; k++) {
            numbers[k] = Integer.parseInt(words[k]);
        }
        String[] names = {"writer", "add", "take", "retire", "post", "tick"};
        return perform(s, names["natrpk".indexOf(order.charAt(0))], numbers[0], numbers[1], numbers[2]);
    }
}
