/**
 * Counters that many writers share, held in views that learn of each other by merging and by
 * letters. ../shared/DOC.md says what every call does and answers.
 */
public final class PartedSums {
    /** An argument is out of its range, or there is no such view or writer. */
    public static final int INVALID_ARGUMENT = -2000000001;
    /** The call is not possible in the present state. */
    public static final int NOT_POSSIBLE = -2000000002;
    /** A fixed limit has been reached. */
    public static final int LIMIT_REACHED = -2000000003;
    /** There is no such value. */
    public static final int NOT_FOUND = -2000000004;

    private static final int VIEWS = 6;
    private static final int FIRST_VIEWS = 2;
    private static final int WRITERS = 8;
    private static final int LETTERS = 8;
    private static final int STATES = 4;
    private static final int CHARACTERS = 60;
    private static final int FIRST_CHARACTER = 32;
    private static final int LAST_CHARACTER = 126;
    private static final int MOST_AMOUNT = 999;
    private static final int MOST_TICKS = 99;
    private static final int LAST_TIME = 1999;
    private static final int MOST_DIGITS = 3;
    private static final int MOST_NUMBERS = 3;
    private static final int NONE = -1;

    private static final int REASON_FORM = 1;
    private static final int REASON_ERROR = 2;

    /** Far above VIEWS * VIEWS, within which merging around the ring has told all to all. */
    private static final int MOST_MERGES = 1000;

    // The six states change places, so that no call has to make an object.
    private State now = new State();
    private State trial = new State();
    private final State[] past = new State[STATES];
    private int pastStates = 0;
    private final Knowledge scratch = new Knowledge();
    private final Script script = new Script();

    /** Creates two views without writers. */
    public PartedSums() {
        for (int k = 0; k < STATES; k++) {
            past[k] = new State();
        }
    }

    // ---- writers

    /** Adds a writer; returns its number. */
    public int writer(int view) {
        return settle(freshTrial().bringWriter(view));
    }

    /** A writer adds; returns the sum of its home then. */
    public int add(int writer, int amount) {
        return settle(freshTrial().addAmount(writer, amount));
    }

    /** A writer takes; returns the sum of its home then. */
    public int take(int writer, int amount) {
        return settle(freshTrial().takeAmount(writer, amount));
    }

    /** A writer retires; returns how many writers have not retired then. */
    public int retire(int writer, int heir) {
        return settle(freshTrial().retireWriter(writer, heir));
    }

    /** Moves a writer to another home; returns the home that it had. */
    public int move(int writer, int view) {
        return settle(freshTrial().moveWriter(writer, view));
    }

    // ---- views, letters

    /** Makes a view that knows what another one knows; returns its number. */
    public int view(int from) {
        return settle(freshTrial().copyView(from));
    }

    /** Drops a view; returns how many there are then. */
    public int drop(int view) {
        return settle(freshTrial().dropView(view));
    }

    /** Lets a view take in at once what another one knows; returns how many parts are other ones. */
    public int merge(int to, int from) {
        return settle(freshTrial().mergeViews(to, from));
    }

    /** Posts a letter; returns the time at which it comes. */
    public int post(int from, int to, int ticks) {
        return settle(freshTrial().postLetter(from, to, ticks));
    }

    /** Lets ticks pass; returns how many letters are taken in. */
    public int tick(int ticks) {
        return settle(freshTrial().passTicks(ticks));
    }

    // ---- what there is

    /** Returns something of a view. */
    public int viewOf(int view, int what) {
        if (!now.hasView(view)) {
            return INVALID_ARGUMENT;
        }
        Knowledge known = now.views[view];
        switch (what) {
            case 0: return known.sum();
            case 1: return known.allAdded();
            case 2: return known.allTaken();
            case 3: return Integer.bitCount(known.knownWriters());
            case 4: return Integer.bitCount(known.graves);
            case 5: return now.writersAtHome(view);
            case 6: return known.knownWriters();
            case 7: return now.viewsThatKnowTheSame(view);
            default: return INVALID_ARGUMENT;
        }
    }

    /** Returns something of a part. */
    public int partOf(int view, int writer, int what) {
        if (!now.hasView(view) || !now.hasWriter(writer) || !isWithin(what, 0, 2)) {
            return INVALID_ARGUMENT;
        }
        Knowledge known = now.views[view];
        if (!known.knows(writer)) {
            return NOT_FOUND;
        }
        switch (what) {
            case 0: return known.versions[writer];
            case 1: return known.added[writer];
            default: return known.taken[writer];
        }
    }

    /** Returns something of a writer. */
    public int writerOf(int writer, int what) {
        if (!now.hasWriter(writer)) {
            return INVALID_ARGUMENT;
        }
        boolean retired = now.hasRetired(writer);
        switch (what) {
            case 0: return retired ? NOT_FOUND : now.homes[writer];
            case 1: return retired ? NOT_FOUND : now.homeVersion(writer);
            case 2: return retired ? now.heirs[writer] : NOT_FOUND;
            case 3: return retired ? NOT_FOUND : now.viewsUpToDate(writer);
            case 4: return now.viewsWithGrave(writer);
            default: return INVALID_ARGUMENT;
        }
    }

    /** Returns something of a letter on its way. */
    public int letterOf(int index, int what) {
        if (index < 0 || !isWithin(what, 0, 4)) {
            return INVALID_ARGUMENT;
        }
        if (index >= now.letterCount) {
            return NOT_FOUND;
        }
        Letter letter = now.letters[index];
        switch (what) {
            case 0: return letter.from;
            case 1: return letter.to;
            case 2: return letter.arrival - now.time;
            case 3: return letter.told.sum();
            default: return letter.lost ? 1 : 0;
        }
    }

    /** Tells what a view lacks of another one. */
    public int lacks(int view, int other, int what) {
        if (!now.hasView(view) || !now.hasView(other) || view == other) {
            return INVALID_ARGUMENT;
        }
        int parts = tryMerging(view, other);
        switch (what) {
            case 0: return parts;
            case 1: return scratch.sum() - now.views[view].sum();
            case 2: return scratch.knowsTheSameAs(now.views[other]) ? 1 : 0;
            default: return INVALID_ARGUMENT;
        }
    }

    // ---- what would be

    /** Returns the sum that all views together know. */
    public int whole() {
        scratch.forgetAll();
        for (int v = 0; v < VIEWS; v++) {
            if (now.hasView(v)) {
                scratch.takeIn(now.views[v]);
            }
        }
        return scratch.sum();
    }

    /** Returns what every view has seen. */
    public int seen() {
        int sum = 0;
        for (int w = 0; w < now.writers; w++) {
            sum += now.leastKnown(w);
        }
        return sum;
    }

    /** Tells how many merges it takes until all views know the same. */
    public int rounds() {
        return freshTrial().mergeUntilAllAgree();
    }

    /** Tells what a view's sum would be behind some ticks. */
    public int would(int view, int ticks) {
        if (!now.hasView(view) || !isWithin(ticks, 0, MOST_TICKS)) {
            return INVALID_ARGUMENT;
        }
        scratch.copyFrom(now.views[view]);
        for (int k = 0; k < now.letterCount; k++) {
            Letter letter = now.letters[k];
            if (letter.to == view && !letter.lost && letter.arrival <= now.time + ticks) {
                scratch.takeIn(letter.told);
            }
        }
        return scratch.sum();
    }

    /** Finds the view that lacks most parts of all others together. */
    public int latest(int what) {
        if (!isWithin(what, 0, 1)) {
            return INVALID_ARGUMENT;
        }
        int latestView = NONE;
        int most = NONE;
        for (int v = 0; v < VIEWS; v++) {
            int parts = now.hasView(v) ? partsLackedOfAll(v) : NONE;
            if (parts > most) {
                latestView = v;
                most = parts;
            }
        }
        return what == 0 ? latestView : most;
    }

    /** Returns a number. */
    public int count(int what) {
        switch (what) {
            case 0: return now.countViews();
            case 1: return now.writers;
            case 2: return now.countActiveWriters();
            case 3: return now.letterCount;
            case 4: return now.time;
            case 5: return now.lettersTakenIn;
            case 6: return now.lettersLost;
            case 7: return now.partsMerged;
            case 8: return pastStates;
            case 9: return script.length;
            case 10: return now.viewSet;
            default: return INVALID_ARGUMENT;
        }
    }

    /** Restores the latest state of the history; returns the number of states left in it. */
    public int undo() {
        if (pastStates == 0) {
            return NOT_POSSIBLE;
        }
        pastStates--;
        State restored = past[pastStates];
        past[pastStates] = now;
        now = restored;
        return pastStates;
    }

    // ---- texts

    /** Appends a character to the text; returns its length. */
    public int type(int character) {
        if (!isWithin(character, FIRST_CHARACTER, LAST_CHARACTER)) {
            return INVALID_ARGUMENT;
        }
        return script.append(character);
    }

    /** Empties the text; returns the length it had. */
    public int clearText() {
        int had = script.length;
        script.length = 0;
        return had;
    }

    /** Tells about the fault of the text. */
    public int fault(int what) {
        if (!isWithin(what, 0, 2)) {
            return INVALID_ARGUMENT;
        }
        script.runIn(freshTrial());
        if (script.faultAt == NONE) {
            return NOT_FOUND;
        }
        switch (what) {
            case 0: return script.faultAt;
            case 1: return script.faultReason;
            default: return script.faultCause;
        }
    }

    /** Does all orders of the text as one change; returns how many there are in it. */
    public int play() {
        script.runIn(freshTrial());
        return settle(script.faultAt == NONE ? script.orders : NOT_POSSIBLE);
    }

    // ---- inside

    /** Every change is tried in a copy first: an error then leaves the present state as it is. */
    private State freshTrial() {
        trial.copyFrom(now);
        return trial;
    }

    /** Makes the trial the present state and records the one before it, unless the answer is an error. */
    private int settle(int answer) {
        if (isError(answer)) {
            return answer;
        }
        State spare;
        if (pastStates < STATES) {
            spare = past[pastStates];
            pastStates++;
        } else {
            spare = past[0];
            for (int k = 1; k < STATES; k++) {
                past[k - 1] = past[k];
            }
        }
        past[pastStates - 1] = now;
        now = trial;
        trial = spare;
        return answer;
    }

    /** Lets the scratch know what the view would know by merging; returns how many parts are other ones. */
    private int tryMerging(int view, int other) {
        scratch.copyFrom(now.views[view]);
        return scratch.takeIn(now.views[other]);
    }

    private int partsLackedOfAll(int view) {
        int parts = 0;
        for (int v = 0; v < VIEWS; v++) {
            if (v != view && now.hasView(v)) {
                parts += tryMerging(view, v);
            }
        }
        return parts;
    }

    private static boolean isWithin(int number, int least, int most) {
        return number >= least && number <= most;
    }

    /** No sum comes near the codes: even 512 calls that each play a text stay within some millions. */
    private static boolean isError(int answer) {
        return isWithin(answer, NOT_FOUND, INVALID_ARGUMENT);
    }

    /** Parts and graves: what a view knows, or what a letter tells. */
    private static final class Knowledge {
        /** By writers; 0 says that the part is not known. */
        final int[] versions = new int[WRITERS];
        final int[] added = new int[WRITERS];
        final int[] taken = new int[WRITERS];
        int graves = 0;

        void copyFrom(Knowledge other) {
            System.arraycopy(other.versions, 0, versions, 0, WRITERS);
            System.arraycopy(other.added, 0, added, 0, WRITERS);
            System.arraycopy(other.taken, 0, taken, 0, WRITERS);
            graves = other.graves;
        }

        void forgetAll() {
            for (int w = 0; w < WRITERS; w++) {
                forgetPart(w);
            }
            graves = 0;
        }

        void forgetPart(int writer) {
            versions[writer] = 0;
            added[writer] = 0;
            taken[writer] = 0;
        }

        boolean knows(int writer) {
            return versions[writer] > 0;
        }

        boolean hasGrave(int writer) {
            return (graves & 1 << writer) != 0;
        }

        /** Writes a new version of a part; of a part that is not known, the first one. */
        void raise(int writer, int moreAdded, int moreTaken) {
            versions[writer]++;
            added[writer] += moreAdded;
            taken[writer] += moreTaken;
        }

        void bequeath(int writer, int heir) {
            raise(heir, added[writer], taken[writer]);
            forgetPart(writer);
            graves |= 1 << writer;
        }

        /** Returns how many parts are other ones then, new ones or gone. */
        int takeIn(Knowledge other) {
            graves |= other.graves;
            int changed = 0;
            for (int w = 0; w < WRITERS; w++) {
                int before = versions[w];
                if (hasGrave(w)) {
                    forgetPart(w);
                } else if (other.versions[w] > before) {
                    versions[w] = other.versions[w];
                    added[w] = other.added[w];
                    taken[w] = other.taken[w];
                }
                if (versions[w] != before) {
                    changed++;
                }
            }
            return changed;
        }

        /** Versions are enough: a part is written in one home alone, so equal ones have equal amounts. */
        boolean knowsTheSameAs(Knowledge other) {
            for (int w = 0; w < WRITERS; w++) {
                if (versions[w] != other.versions[w]) {
                    return false;
                }
            }
            return graves == other.graves;
        }

        int allAdded() {
            int all = 0;
            for (int w = 0; w < WRITERS; w++) {
                all += added[w];
            }
            return all;
        }

        int allTaken() {
            int all = 0;
            for (int w = 0; w < WRITERS; w++) {
                all += taken[w];
            }
            return all;
        }

        int sum() {
            return allAdded() - allTaken();
        }

        int knownWriters() {
            int set = 0;
            for (int w = 0; w < WRITERS; w++) {
                if (knows(w)) {
                    set |= 1 << w;
                }
            }
            return set;
        }
    }

    /** A letter on its way. */
    private static final class Letter {
        int from = 0;
        int to = 0;
        int arrival = 0;
        /** Kept here, as a new view may get the number of the dropped one. */
        boolean lost = false;
        final Knowledge told = new Knowledge();

        void copyFrom(Letter other) {
            from = other.from;
            to = other.to;
            arrival = other.arrival;
            lost = other.lost;
            told.copyFrom(other.told);
        }
    }

    /** Everything but the text and the history, with the changes; one that returns an error changes nothing. */
    private static final class State {
        final Knowledge[] views = new Knowledge[VIEWS];
        int viewSet = (1 << FIRST_VIEWS) - 1;
        final int[] homes = new int[WRITERS];
        /** By writers; NONE says that the writer has not retired. */
        final int[] heirs = new int[WRITERS];
        int writers = 0;
        /** Those on their way, ahead in the row, in the order in which they come. */
        final Letter[] letters = new Letter[LETTERS];
        int letterCount = 0;
        int time = 0;
        int lettersTakenIn = 0;
        int lettersLost = 0;
        int partsMerged = 0;

        State() {
            for (int v = 0; v < VIEWS; v++) {
                views[v] = new Knowledge();
            }
            for (int k = 0; k < LETTERS; k++) {
                letters[k] = new Letter();
            }
        }

        void copyFrom(State other) {
            for (int v = 0; v < VIEWS; v++) {
                views[v].copyFrom(other.views[v]);
            }
            for (int k = 0; k < LETTERS; k++) {
                letters[k].copyFrom(other.letters[k]);
            }
            System.arraycopy(other.homes, 0, homes, 0, WRITERS);
            System.arraycopy(other.heirs, 0, heirs, 0, WRITERS);
            viewSet = other.viewSet;
            writers = other.writers;
            letterCount = other.letterCount;
            time = other.time;
            lettersTakenIn = other.lettersTakenIn;
            lettersLost = other.lettersLost;
            partsMerged = other.partsMerged;
        }

        boolean hasView(int view) {
            return isWithin(view, 0, VIEWS - 1) && (viewSet & 1 << view) != 0;
        }

        boolean hasWriter(int writer) {
            return isWithin(writer, 0, writers - 1);
        }

        boolean hasRetired(int writer) {
            return heirs[writer] != NONE;
        }

        int countViews() {
            return Integer.bitCount(viewSet);
        }

        int countActiveWriters() {
            int active = 0;
            for (int w = 0; w < writers; w++) {
                if (!hasRetired(w)) {
                    active++;
                }
            }
            return active;
        }

        Knowledge homeOf(int writer) {
            return views[homes[writer]];
        }

        int homeVersion(int writer) {
            return homeOf(writer).versions[writer];
        }

        int writersAtHome(int view) {
            int set = 0;
            for (int w = 0; w < writers; w++) {
                if (homes[w] == view && !hasRetired(w)) {
                    set |= 1 << w;
                }
            }
            return set;
        }

        int viewsThatKnowTheSame(int view) {
            int set = 0;
            for (int v = 0; v < VIEWS; v++) {
                if (hasView(v) && views[v].knowsTheSameAs(views[view])) {
                    set |= 1 << v;
                }
            }
            return set;
        }

        int viewsUpToDate(int writer) {
            int set = 0;
            for (int v = 0; v < VIEWS; v++) {
                if (hasView(v) && views[v].versions[writer] == homeVersion(writer)) {
                    set |= 1 << v;
                }
            }
            return set;
        }

        int viewsWithGrave(int writer) {
            int set = 0;
            for (int v = 0; v < VIEWS; v++) {
                if (hasView(v) && views[v].hasGrave(writer)) {
                    set |= 1 << v;
                }
            }
            return set;
        }

        /** Returns what the part with the least version adds less what it takes, 0 if a view does not know it. */
        int leastKnown(int writer) {
            Knowledge least = null;
            for (int v = 0; v < VIEWS; v++) {
                if (hasView(v) && (least == null || views[v].versions[writer] < least.versions[writer])) {
                    least = views[v];
                }
            }
            // A part that is not known has the version 0 and no amounts.
            return least == null ? 0 : least.added[writer] - least.taken[writer];
        }

        int bringWriter(int view) {
            if (!hasView(view)) {
                return INVALID_ARGUMENT;
            }
            if (writers >= WRITERS) {
                return LIMIT_REACHED;
            }
            int number = writers;
            writers++;
            homes[number] = view;
            heirs[number] = NONE;
            views[view].raise(number, 0, 0);
            return number;
        }

        int addAmount(int writer, int amount) {
            if (!hasWriter(writer) || !isWithin(amount, 1, MOST_AMOUNT)) {
                return INVALID_ARGUMENT;
            }
            if (hasRetired(writer)) {
                return NOT_POSSIBLE;
            }
            homeOf(writer).raise(writer, amount, 0);
            return homeOf(writer).sum();
        }

        int takeAmount(int writer, int amount) {
            if (!hasWriter(writer) || !isWithin(amount, 1, MOST_AMOUNT)) {
                return INVALID_ARGUMENT;
            }
            if (hasRetired(writer) || homeOf(writer).sum() < amount) {
                return NOT_POSSIBLE;
            }
            homeOf(writer).raise(writer, 0, amount);
            return homeOf(writer).sum();
        }

        int retireWriter(int writer, int heir) {
            if (!hasWriter(writer) || !hasWriter(heir) || writer == heir) {
                return INVALID_ARGUMENT;
            }
            if (hasRetired(writer) || hasRetired(heir) || homes[writer] != homes[heir]) {
                return NOT_POSSIBLE;
            }
            homeOf(writer).bequeath(writer, heir);
            heirs[writer] = heir;
            return countActiveWriters();
        }

        int moveWriter(int writer, int view) {
            if (!hasWriter(writer) || !hasView(view)) {
                return INVALID_ARGUMENT;
            }
            if (hasRetired(writer) || homes[writer] == view
                    || views[view].versions[writer] != homeVersion(writer)) {
                return NOT_POSSIBLE;
            }
            int had = homes[writer];
            homes[writer] = view;
            return had;
        }

        int copyView(int from) {
            if (!hasView(from)) {
                return INVALID_ARGUMENT;
            }
            for (int v = 0; v < VIEWS; v++) {
                if (!hasView(v)) {
                    viewSet |= 1 << v;
                    views[v].copyFrom(views[from]);
                    return v;
                }
            }
            return LIMIT_REACHED;
        }

        int dropView(int view) {
            if (!hasView(view)) {
                return INVALID_ARGUMENT;
            }
            if (writersAtHome(view) != 0 || countViews() == 1) {
                return NOT_POSSIBLE;
            }
            viewSet &= ~(1 << view);
            for (int k = 0; k < letterCount; k++) {
                if (letters[k].to == view) {
                    letters[k].lost = true;
                }
            }
            return countViews();
        }

        int mergeViews(int to, int from) {
            if (!hasView(to) || !hasView(from) || to == from) {
                return INVALID_ARGUMENT;
            }
            int changed = views[to].takeIn(views[from]);
            partsMerged += changed;
            return changed;
        }

        int postLetter(int from, int to, int ticks) {
            if (!hasView(from) || !hasView(to) || from == to || !isWithin(ticks, 1, MOST_TICKS)) {
                return INVALID_ARGUMENT;
            }
            if (letterCount >= LETTERS) {
                return LIMIT_REACHED;
            }
            Letter letter = insertLetter(time + ticks);
            letter.from = from;
            letter.to = to;
            letter.lost = false;
            letter.told.copyFrom(views[from]);
            return letter.arrival;
        }

        /** Puts a free letter behind all that come no later; there is one, letterCount is below LETTERS. */
        private Letter insertLetter(int arrival) {
            Letter letter = letters[letterCount];
            letter.arrival = arrival;
            int place = letterCount;
            while (place > 0 && letters[place - 1].arrival > arrival) {
                letters[place] = letters[place - 1];
                place--;
            }
            letters[place] = letter;
            letterCount++;
            return letter;
        }

        /** The row of letters is in the order of coming, so the ticks need not pass one by one. */
        int passTicks(int ticks) {
            if (!isWithin(ticks, 1, MOST_TICKS)) {
                return INVALID_ARGUMENT;
            }
            if (time + ticks > LAST_TIME) {
                return LIMIT_REACHED;
            }
            time += ticks;
            int takenInBefore = lettersTakenIn;
            int come = 0;
            while (come < letterCount && letters[come].arrival <= time) {
                receive(letters[come]);
                come++;
            }
            removeLetters(come);
            return lettersTakenIn - takenInBefore;
        }

        private void receive(Letter letter) {
            if (letter.lost) {
                lettersLost++;
            } else {
                partsMerged += views[letter.to].takeIn(letter.told);
                lettersTakenIn++;
            }
        }

        /** The letters that leave the front of the row are kept behind the others, to be used again. */
        private void removeLetters(int come) {
            for (int k = come; k < letterCount; k++) {
                Letter free = letters[k - come];
                letters[k - come] = letters[k];
                letters[k] = free;
            }
            letterCount -= come;
        }

        int mergeUntilAllAgree() {
            int merges = 0;
            int to = viewBehind(VIEWS - 1);
            while (merges < MOST_MERGES && viewsThatKnowTheSame(to) != viewSet) {
                int next = viewBehind(to);
                views[to].takeIn(views[next]);
                to = next;
                merges++;
            }
            return merges;
        }

        /** Returns the next view in turn, behind the last one the first one. */
        private int viewBehind(int view) {
            for (int k = 1; k <= VIEWS; k++) {
                int next = (view + k) % VIEWS;
                if (hasView(next)) {
                    return next;
                }
            }
            return view;
        }
    }

    /** The text, and what was found out when its orders were done. */
    private static final class Script {
        final int[] characters = new int[CHARACTERS];
        int length = 0;

        /** Of the last run: how many orders were done, and the fault, if faultAt is not NONE. */
        int orders = 0;
        int faultAt = NONE;
        int faultReason = 0;
        int faultCause = 0;

        /** Of the order that is read: its letter, its numbers, and how far it has been read. */
        private int kind = 0;
        private final int[] numbers = new int[MOST_NUMBERS];
        private int at = 0;

        int append(int character) {
            if (length >= CHARACTERS) {
                return LIMIT_REACHED;
            }
            characters[length] = character;
            length++;
            return length;
        }

        /** Does the orders in the state, up to the first one that is not possible. */
        void runIn(State state) {
            faultAt = NONE;
            int start = 0;
            for (orders = 0; orders < CHARACTERS && start < length; orders++) {
                if (!readOrder(start)) {
                    noteFault(start, REASON_FORM, at - start);
                    return;
                }
                int answer = doOrder(state);
                if (isError(answer)) {
                    noteFault(start, REASON_ERROR, answer);
                    return;
                }
                start = at;
            }
        }

        private void noteFault(int start, int reason, int cause) {
            faultAt = start;
            faultReason = reason;
            faultCause = cause;
        }

        /** Returns whether there is an order; if not, it breaks off at the character that is read next. */
        private boolean readOrder(int start) {
            at = start;
            kind = characters[start];
            int wanted = numbersOf(kind);
            if (wanted == 0) {
                return false;
            }
            at++;
            for (int k = 0; k < wanted; k++) {
                if (!readNumber(k) || !readSign(k == wanted - 1 ? ';' : ',')) {
                    return false;
                }
            }
            return true;
        }

        /** Returns how many numbers an order with this letter has, 0 if there is none. */
        private static int numbersOf(int letter) {
            switch (letter) {
                case 'n':
                case 'k':
                    return 1;
                case 'a':
                case 't':
                case 'r':
                    return 2;
                case 'p':
                    return 3;
                default:
                    return 0;
            }
        }

        private boolean readNumber(int index) {
            int digits = 0;
            int number = 0;
            while (digits < MOST_DIGITS && at < length && isWithin(characters[at], '0', '9')) {
                number = number * 10 + characters[at] - '0';
                digits++;
                at++;
            }
            numbers[index] = number;
            return digits > 0;
        }

        private boolean readSign(char sign) {
            if (at >= length || characters[at] != sign) {
                return false;
            }
            at++;
            return true;
        }

        private int doOrder(State state) {
            switch (kind) {
                case 'n': return state.bringWriter(numbers[0]);
                case 'a': return state.addAmount(numbers[0], numbers[1]);
                case 't': return state.takeAmount(numbers[0], numbers[1]);
                case 'r': return state.retireWriter(numbers[0], numbers[1]);
                case 'p': return state.postLetter(numbers[0], numbers[1], numbers[2]);
                default: return state.passTicks(numbers[0]);
            }
        }
    }
}
