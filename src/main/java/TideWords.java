/** Two stores with tides of their own, four gates between them, and words that pass letter by letter. */
public final class TideWords {
    public static final int NO_SUCH = -1001, BAD_VALUE = -1002, BAD_TEXT = -1003, TOO_MANY = -1004, NOT_POSSIBLE = -1005, NONE = -1006;

    private static final int STORES = 2, GATES = 4, MOST_WORDS = 12, MOST_LETTERS = 6;
    private static final int MOST_MEAN = 300, MOST_SWING = 100, LEAST_PERIOD = 2, MOST_PERIOD = 60;
    private static final int MOST_LIE = 50, MOST_SLACK = 99;
    private static final int MOST_RUN = 500, MOST_STEPS = 99999, MOST_AHEAD = 1000;
    private static final int OPEN_AHEAD = 4000, SEARCH_AHEAD = 200;
    private static final int PAD_SIZE = 60, MOST_CODES = 8, CODE_BITS = 8, CODE_MASK = 255, LEAST_CODE = 33, MOST_CODE = 126;
    private static final int HISTORY = 6, SLOTS = 2, FIRST_LETTER = 7, STAYS = 1;

    private final World now;
    private final World trial;
    private final Pad pad;
    private final World[] history;
    private final World[] slots;
    private final Cells isSaved;
    private final Cells gapsAhead;
    private int nextRecord;
    private int records;

    public TideWords() {
        now = new World();
        trial = new World();
        pad = new Pad();
        history = new World[HISTORY];
        for (int i = 0; i < history.length; i++) {
            history[i] = new World();
        }
        slots = new World[SLOTS];
        for (int i = 0; i < slots.length; i++) {
            slots[i] = new World();
        }
        isSaved = new Cells(SLOTS);
        gapsAhead = new Cells(SEARCH_AHEAD);
    }

    // ---- changes

    public int tide(int store, int mean, int swing, int period) {
        if (!isStore(store)) {
            return NO_SUCH;
        }
        if (!isWithin(mean, 0, MOST_MEAN) || !isWithin(swing, 0, MOST_SWING) || !isWithin(period, LEAST_PERIOD, MOST_PERIOD)) {
            return BAD_VALUE;
        }
        record();
        now.tides.change(store, mean, swing, period);
        return now.tides.levelAt(store, now.steps);
    }

    public int gauge(int store, int lie) {
        if (!isStore(store)) {
            return NO_SUCH;
        }
        if (!isWithin(lie, -MOST_LIE, MOST_LIE)) {
            return BAD_VALUE;
        }
        record();
        int before = now.tides.lies.get(store);
        now.tides.lies.set(store, lie);
        return before;
    }

    public int gate(int gate, int side, int slack, int way) {
        if (!isGate(gate)) {
            return NO_SUCH;
        }
        if (!isWithin(side, 0, STORES - 1) || !isWithin(slack, 0, MOST_SLACK) || !isWithin(way, 0, 1)) {
            return BAD_VALUE;
        }
        if (now.gates.hasWord(gate) && side != now.gates.sides.get(gate)) {
            return NOT_POSSIBLE;
        }
        record();
        int before = now.gates.slacks.get(gate);
        now.gates.change(gate, side, slack, way);
        return before;
    }

    public int shut(int gate, boolean isShut) {
        if (!isGate(gate)) {
            return NO_SUCH;
        }
        if (now.gates.isShut(gate) == isShut) {
            return NOT_POSSIBLE;
        }
        record();
        now.gates.shuts.set(gate, isShut ? 1 : 0);
        return now.gates.shuts.sum();
    }

    public int put(int store) {
        if (!isStore(store)) {
            return NO_SUCH;
        }
        if (pad.faultPlace() != NONE) {
            return BAD_TEXT;
        }
        if (now.words.total + pad.wordsInside() > MOST_WORDS) {
            return TOO_MANY;
        }
        record();
        bringWords(store);
        pad.length = 0;
        return now.words.total;
    }

    public int run(int steps) {
        if (!isWithin(steps, 1, MOST_RUN)) {
            return BAD_VALUE;
        }
        if (now.steps + steps > MOST_STEPS) {
            return TOO_MANY;
        }
        record();
        int before = now.gates.passedWords.sum();
        now.makeSteps(steps);
        return now.gates.passedWords.sum() - before;
    }

    // ---- what there is; nothing changes

    public int store(int store, int what) {
        if (!isStore(store)) {
            return NO_SUCH;
        }
        switch (what) {
            case 0: return now.tides.means.get(store);
            case 1: return now.tides.swings.get(store);
            case 2: return now.tides.periods.get(store);
            case 3: return now.tides.lies.get(store);
            case 4: return now.tides.levelAt(store, now.steps);
            case 5: return now.tides.toldAt(store, now.steps);
            case 6: return now.words.rowLengths.get(store);
            case 7: return now.words.lettersInRow(store);
            case 8: return now.words.waitingInRow(store);
            default: return BAD_VALUE;
        }
    }

    public int gateOf(int gate, int what) {
        if (!isGate(gate)) {
            return NO_SUCH;
        }
        switch (what) {
            case 0: return now.gates.sides.get(gate);
            case 1: return now.gates.slacks.get(gate);
            case 2: return now.gates.ways.get(gate);
            case 3: return now.gates.shuts.get(gate);
            case 4: return now.isOpenAt(gate, now.steps) ? 1 : 0;
            case 5: return now.gates.held.get(gate);
            case 6: return now.gates.lettersDone.get(gate);
            case 7: return now.gates.passedWords.get(gate);
            case 8: return now.gates.vainLetters.get(gate);
            default: return BAD_VALUE;
        }
    }

    public int word(int word, int what) {
        if (!isWord(word)) {
            return NO_SUCH;
        }
        if (what < 0) {
            return BAD_VALUE;
        }
        switch (what) {
            case 0: return now.whereIs(word);
            case 1: return now.words.placeOf(word);
            case 2: return now.words.lengths.get(word);
            case 3: return now.words.hasPassed(word) ? 1 : 0;
            case 4: return now.words.passedSteps.get(word);
            case 5: return now.words.passedGates.get(word);
            case 6: return now.words.timesBack.get(word);
            default: return now.words.letterOf(word, what - FIRST_LETTER);
        }
    }

    public int at(int store, int place) {
        if (!isStore(store) || !isWithin(place, 0, now.words.rowLengths.get(store) - 1)) {
            return NO_SUCH;
        }
        return now.words.wordAt(store, place);
    }

    public int count(int what) {
        switch (what) {
            case 0: return now.steps;
            case 1: return now.words.total;
            case 2: return now.gates.passedWords.sum();
            case 3: return now.words.waitingInRow(0) + now.words.waitingInRow(1);
            case 4: return now.gates.wordsInside();
            case 5: return now.letters;
            case 6: return now.gates.vainLetters.sum();
            case 7: return now.openMask();
            case 8: return now.idleSteps;
            case 9: return pad.length;
            case 10: return records;
            default: return BAD_VALUE;
        }
    }

    // ---- what if; nothing changes

    public int untilOpen(int gate) {
        if (!isGate(gate)) {
            return NO_SUCH;
        }
        return now.stepsUntilOpen(gate);
    }

    public int openFor(int gate) {
        if (!isGate(gate)) {
            return NO_SUCH;
        }
        int wait = now.stepsUntilOpen(gate);
        return wait == NONE ? NONE : now.openStepsFrom(gate, now.steps + wait);
    }

    public int untilPassed(int word) {
        if (!isWord(word)) {
            return NO_SUCH;
        }
        trial.copyFrom(now);
        for (int made = 0; made <= MOST_AHEAD; made++) {
            if (trial.words.hasPassed(word)) {
                return made;
            }
            trial.makeSteps(1);
        }
        return NONE;
    }

    public int ifRun(int steps, int what) {
        if (!isWithin(steps, 1, MOST_AHEAD) || !isWithin(what, 0, 3)) {
            return BAD_VALUE;
        }
        trial.copyFrom(now);
        trial.makeSteps(steps);
        return trial.tally(what) - now.tally(what);
    }

    public int leastSlack(int gate, int what) {
        if (!isGate(gate)) {
            return NO_SUCH;
        }
        if (!isWithin(what, 0, 1)) {
            return BAD_VALUE;
        }
        findGapsAhead();
        int notPassed = now.words.total - now.gates.passedWords.sum();
        int best = 0;
        int most = wordsPassingWith(gate, 0);
        for (int slack = 1; slack <= MOST_SLACK && most < notPassed; slack++) {
            // A slack that no gap equals opens the gate just when the slack before it does.
            int passing = hasGapAhead(slack) ? wordsPassingWith(gate, slack) : most;
            if (passing > most) {
                best = slack;
                most = passing;
            }
        }
        return what == 0 ? best : most;
    }

    public int bestLie(int store, int gate) {
        if (!isStore(store) || !isGate(gate)) {
            return NO_SUCH;
        }
        findGapsAhead();
        int best = 0;
        int most = openStepsWith(store, gate, 0);
        for (int tried = 1; tried <= 2 * MOST_LIE; tried++) {
            // -1, 1, -2, 2 ..: the nearest to 0 come first, and the one below 0 ahead of the one above.
            int lie = (tried & 1) == 1 ? -(tried + 1) / 2 : tried / 2;
            int open = openStepsWith(store, gate, lie);
            if (open > most) {
                best = lie;
                most = open;
            }
        }
        return best;
    }

    // ---- texts

    public int write(long characters) {
        int codes = codesIn(characters);
        if (codes == BAD_VALUE) {
            return BAD_VALUE;
        }
        if (pad.length + codes > PAD_SIZE) {
            return TOO_MANY;
        }
        for (int i = codes - 1; i >= 0; i--) {
            pad.append(codeAt(characters, i));
        }
        return pad.length;
    }

    public int wipe() {
        int before = pad.length;
        pad.length = 0;
        return before;
    }

    public int fault() {
        return pad.faultPlace();
    }

    // ---- undo, saving

    public int undo() {
        if (records == 0) {
            return NOT_POSSIBLE;
        }
        nextRecord = nextRecord == 0 ? HISTORY - 1 : nextRecord - 1;
        records--;
        now.copyFrom(worldIn(history, nextRecord));
        return records;
    }

    public int save(int slot) {
        if (!isWithin(slot, 0, SLOTS - 1)) {
            return BAD_VALUE;
        }
        copyInto(slots, slot);
        isSaved.set(slot, 1);
        return now.steps;
    }

    public int restore(int slot) {
        if (!isWithin(slot, 0, SLOTS - 1)) {
            return BAD_VALUE;
        }
        if (isSaved.get(slot) == 0) {
            return NOT_POSSIBLE;
        }
        record();
        now.copyFrom(worldIn(slots, slot));
        return now.steps;
    }

    private static boolean isWithin(int value, int least, int most) {
        return value >= least && value <= most;
    }

    private static boolean isStore(int store) {
        return isWithin(store, 0, STORES - 1);
    }

    private static boolean isGate(int gate) {
        return isWithin(gate, 0, GATES - 1);
    }

    private boolean isWord(int word) {
        return isWithin(word, 0, now.words.total - 1);
    }

    private static World worldIn(World[] worlds, int index) {
        return index >= 0 && index < worlds.length ? worlds[index] : null;
    }

    private void copyInto(World[] worlds, int index) {
        World kept = worldIn(worlds, index);
        if (kept != null) {
            kept.copyFrom(now);
        }
    }

    /** Keeps the state before a change; the oldest one is overwritten when there is no more room. */
    private void record() {
        copyInto(history, nextRecord);
        nextRecord = nextRecord == HISTORY - 1 ? 0 : nextRecord + 1;
        records = Math.min(records + 1, HISTORY);
    }

    private void bringWords(int store) {
        now.words.startWord(store);
        for (int i = 0; i < pad.length; i++) {
            int code = pad.codes.get(i);
            if (code == ',') {
                now.words.startWord(store);
            } else {
                now.words.addLetter(code);
            }
        }
    }

    /** How many characters a number gives, BAD_VALUE if they are not as they have to be. */
    private static int codesIn(long characters) {
        long rest = characters;
        int codes = 0;
        for (int i = 0; i < MOST_CODES && rest != 0; i++) {
            if (!isWithin((int) (rest & CODE_MASK), LEAST_CODE, MOST_CODE)) {
                return BAD_VALUE;
            }
            codes++;
            rest >>>= CODE_BITS;
        }
        return codes == 0 ? BAD_VALUE : codes;
    }

    private static int codeAt(long characters, int placeFromLast) {
        return (int) (characters >>> CODE_BITS * placeFromLast) & CODE_MASK;
    }

    /** Steps change no tide, so the gaps of the steps ahead serve all slacks and lies that are tried. */
    private void findGapsAhead() {
        for (int i = 0; i < SEARCH_AHEAD; i++) {
            gapsAhead.set(i, now.tides.gapAt(now.steps + i));
        }
    }

    private boolean hasGapAhead(int size) {
        for (int i = 0; i < SEARCH_AHEAD; i++) {
            if (Math.abs(gapsAhead.get(i)) == size) {
                return true;
            }
        }
        return false;
    }

    private int wordsPassingWith(int gate, int slack) {
        trial.copyFrom(now);
        trial.gates.slacks.set(gate, slack);
        for (int i = 0; i < SEARCH_AHEAD; i++) {
            trial.stepAcross(gapsAhead.get(i));
        }
        return trial.gates.passedWords.sum() - now.gates.passedWords.sum();
    }

    private int openStepsWith(int store, int gate, int lie) {
        int more = lie - now.tides.lies.get(store);
        int shift = store == 0 ? more : -more;
        int slack = now.gates.slacks.get(gate);
        int open = 0;
        for (int i = 0; i < SEARCH_AHEAD; i++) {
            if (Math.abs(gapsAhead.get(i) + shift) <= slack) {
                open++;
            }
        }
        return open;
    }

    /** A row of numbers of a fixed length: what lies outside of it reads as 0, and is not written. */
    private static final class Cells {
        private final int[] cells;

        Cells(int size) {
            cells = new int[Math.max(size, 0)];
        }

        int get(int index) {
            return index >= 0 && index < cells.length ? cells[index] : 0;
        }

        void set(int index, int value) {
            if (index >= 0 && index < cells.length) {
                cells[index] = value;
            }
        }

        void add(int index, int more) {
            if (index >= 0 && index < cells.length) {
                cells[index] += more;
            }
        }

        int sum() {
            int sum = 0;
            for (int i = 0; i < cells.length; i++) {
                sum += cells[i];
            }
            return sum;
        }

        void copyFrom(Cells other) {
            if (other != null) {
                System.arraycopy(other.cells, 0, cells, 0, Math.min(other.cells.length, cells.length));
            }
        }
    }

    /** The tides of both stores, and the lies of their gauges. */
    private static final class Tides {
        final Cells means = new Cells(STORES);
        final Cells swings = new Cells(STORES);
        final Cells periods = new Cells(STORES);
        final Cells lies = new Cells(STORES);

        Tides() {
            change(0, 100, 30, 24);
            change(1, 100, 30, 20);
        }

        void change(int store, int mean, int swing, int period) {
            means.set(store, mean);
            swings.set(store, swing);
            periods.set(store, period);
        }

        int levelAt(int store, int step) {
            int period = periods.get(store);
            int low = means.get(store) - swings.get(store);
            if (period < LEAST_PERIOD) {
                return low;
            }
            int phase = step % period;
            return low + 4 * swings.get(store) * Math.min(phase, period - phase) / period;
        }

        int toldAt(int store, int step) {
            return levelAt(store, step) + lies.get(store);
        }

        /** By how much the told level of the store 0 is above the one of the store 1. */
        int gapAt(int step) {
            return toldAt(0, step) - toldAt(1, step);
        }

        void copyFrom(Tides other) {
            if (other != null) {
                means.copyFrom(other.means);
                swings.copyFrom(other.swings);
                periods.copyFrom(other.periods);
                lies.copyFrom(other.lies);
            }
        }
    }

    /** The gates, and the words that are in them. */
    private static final class Gates {
        final Cells sides = new Cells(GATES);
        final Cells slacks = new Cells(GATES);
        final Cells ways = new Cells(GATES);
        final Cells shuts = new Cells(GATES);
        final Cells held = new Cells(GATES);
        final Cells lettersDone = new Cells(GATES);
        final Cells passedWords = new Cells(GATES);
        final Cells vainLetters = new Cells(GATES);

        Gates() {
            for (int gate = 0; gate < GATES; gate++) {
                change(gate, gate & 1, 5, 0);
                held.set(gate, NONE);
            }
        }

        void change(int gate, int side, int slack, int way) {
            sides.set(gate, side);
            slacks.set(gate, slack);
            ways.set(gate, way);
        }

        boolean isShut(int gate) {
            return shuts.get(gate) != 0;
        }

        boolean isOpenAcross(int gate, int gap) {
            return !isShut(gate) && Math.abs(gap) <= slacks.get(gate);
        }

        boolean hasWord(int gate) {
            return held.get(gate) != NONE;
        }

        void release(int gate) {
            held.set(gate, NONE);
            lettersDone.set(gate, 0);
        }

        int wordsInside() {
            int inside = 0;
            for (int gate = 0; gate < GATES; gate++) {
                inside += hasWord(gate) ? 1 : 0;
            }
            return inside;
        }

        int gateWith(int word) {
            for (int gate = 0; gate < GATES; gate++) {
                if (held.get(gate) == word) {
                    return gate;
                }
            }
            return NONE;
        }

        void copyFrom(Gates other) {
            if (other != null) {
                sides.copyFrom(other.sides);
                slacks.copyFrom(other.slacks);
                ways.copyFrom(other.ways);
                shuts.copyFrom(other.shuts);
                held.copyFrom(other.held);
                lettersDone.copyFrom(other.lettersDone);
                passedWords.copyFrom(other.passedWords);
                vainLetters.copyFrom(other.vainLetters);
            }
        }
    }

    /** The words, and the rows in which they wait. */
    private static final class Words {
        final Cells lengths = new Cells(MOST_WORDS);
        final Cells letters = new Cells(MOST_WORDS * MOST_LETTERS);
        final Cells passedSteps = new Cells(MOST_WORDS);
        final Cells passedGates = new Cells(MOST_WORDS);
        final Cells timesBack = new Cells(MOST_WORDS);
        final Cells rows = new Cells(STORES * MOST_WORDS);
        final Cells rowLengths = new Cells(STORES);
        int total;

        void startWord(int store) {
            int word = total;
            if (word >= MOST_WORDS) {
                return;
            }
            lengths.set(word, 0);
            passedSteps.set(word, NONE);
            passedGates.set(word, NONE);
            addLast(store, word);
            total++;
        }

        /** Adds a letter to the word that came last. */
        void addLetter(int code) {
            int word = total - 1;
            int length = lengths.get(word);
            if (length < MOST_LETTERS) {
                letters.set(word * MOST_LETTERS + length, code);
                lengths.add(word, 1);
            }
        }

        int letterOf(int word, int index) {
            boolean isThere = index >= 0 && index < lengths.get(word);
            return isThere ? letters.get(word * MOST_LETTERS + index) : NONE;
        }

        boolean hasPassed(int word) {
            return passedSteps.get(word) != NONE;
        }

        void markPassed(int word, int step, int gate) {
            passedSteps.set(word, step);
            passedGates.set(word, gate);
        }

        int wordAt(int store, int place) {
            return rows.get(store * MOST_WORDS + place);
        }

        /** The place of a word in the row of a store, NONE if it is not in it. */
        int placeIn(int store, int word) {
            int length = rowLengths.get(store);
            for (int place = 0; place < length; place++) {
                if (wordAt(store, place) == word) {
                    return place;
                }
            }
            return NONE;
        }

        int placeOf(int word) {
            int place = placeIn(0, word);
            return place != NONE ? place : placeIn(1, word);
        }

        int lettersInRow(int store) {
            int length = rowLengths.get(store);
            int sum = 0;
            for (int place = 0; place < length; place++) {
                sum += lengths.get(wordAt(store, place));
            }
            return sum;
        }

        int waitingInRow(int store) {
            int length = rowLengths.get(store);
            int waiting = 0;
            for (int place = 0; place < length; place++) {
                waiting += hasPassed(wordAt(store, place)) ? 0 : 1;
            }
            return waiting;
        }

        void addLast(int store, int word) {
            int length = rowLengths.get(store);
            if (length < MOST_WORDS) {
                rows.set(store * MOST_WORDS + length, word);
                rowLengths.set(store, length + 1);
            }
        }

        void addFirst(int store, int word) {
            int first = store * MOST_WORDS;
            int length = rowLengths.get(store);
            if (length < MOST_WORDS) {
                for (int place = length; place > 0; place--) {
                    rows.set(first + place, rows.get(first + place - 1));
                }
                rows.set(first, word);
                rowLengths.set(store, length + 1);
            }
        }

        /** Takes the first word that has not passed out of a row; NONE if there is none. */
        int takeWaiting(int store) {
            int length = rowLengths.get(store);
            for (int place = 0; place < length; place++) {
                int word = wordAt(store, place);
                if (!hasPassed(word)) {
                    removeFrom(store, place);
                    return word;
                }
            }
            return NONE;
        }

        void removeFrom(int store, int removed) {
            int first = store * MOST_WORDS;
            int length = rowLengths.get(store);
            for (int place = removed + 1; place < length; place++) {
                rows.set(first + place - 1, rows.get(first + place));
            }
            rowLengths.set(store, length - 1);
        }

        void copyFrom(Words other) {
            if (other != null) {
                lengths.copyFrom(other.lengths);
                letters.copyFrom(other.letters);
                passedSteps.copyFrom(other.passedSteps);
                passedGates.copyFrom(other.passedGates);
                timesBack.copyFrom(other.timesBack);
                rows.copyFrom(other.rows);
                rowLengths.copyFrom(other.rowLengths);
                total = other.total;
            }
        }
    }

    /** All that is undone and saved together: tides, gates, words, and what the steps have counted. */
    private static final class World {
        final Tides tides = new Tides();
        final Gates gates = new Gates();
        final Words words = new Words();
        int steps;
        int letters;
        int idleSteps;

        boolean isOpenAt(int gate, int step) {
            return gates.isOpenAcross(gate, tides.gapAt(step));
        }

        int openMask() {
            int mask = 0;
            for (int gate = 0; gate < GATES; gate++) {
                mask |= isOpenAt(gate, steps) ? 1 << gate : 0;
            }
            return mask;
        }

        int stepsUntilOpen(int gate) {
            for (int wait = 0; wait < OPEN_AHEAD; wait++) {
                if (isOpenAt(gate, steps + wait)) {
                    return wait;
                }
            }
            return NONE;
        }

        int openStepsFrom(int gate, int step) {
            int open = 0;
            while (open < OPEN_AHEAD && isOpenAt(gate, step + open)) {
                open++;
            }
            return open;
        }

        int whereIs(int word) {
            int gate = gates.gateWith(word);
            if (gate != NONE) {
                return STORES + gate;
            }
            return words.placeIn(0, word) != NONE ? 0 : 1;
        }

        void makeSteps(int many) {
            for (int i = 0; i < many; i++) {
                stepAcross(tides.gapAt(steps));
            }
        }

        /** A step in which the told levels differ by a gap. */
        void stepAcross(int gap) {
            boolean isIdle = true;
            for (int gate = 0; gate < GATES; gate++) {
                if (gates.isOpenAcross(gate, gap)) {
                    isIdle = false;
                    takeWord(gate);
                    passLetter(gate);
                } else {
                    sendBack(gate);
                }
            }
            idleSteps += isIdle ? 1 : 0;
            steps++;
        }

        private void takeWord(int gate) {
            if (!gates.hasWord(gate)) {
                gates.held.set(gate, words.takeWaiting(gates.sides.get(gate)));
            }
        }

        private void passLetter(int gate) {
            int word = gates.held.get(gate);
            if (word == NONE) {
                return;
            }
            letters++;
            gates.lettersDone.add(gate, 1);
            if (gates.lettersDone.get(gate) < words.lengths.get(word)) {
                return;
            }
            gates.release(gate);
            gates.passedWords.add(gate, 1);
            words.markPassed(word, steps, gate);
            words.addLast(1 - gates.sides.get(gate), word);
        }

        private void sendBack(int gate) {
            int word = gates.held.get(gate);
            if (word == NONE || gates.ways.get(gate) == STAYS) {
                return;
            }
            gates.vainLetters.add(gate, gates.lettersDone.get(gate));
            gates.release(gate);
            words.timesBack.add(word, 1);
            words.addFirst(gates.sides.get(gate), word);
        }

        /** What ifRun() counts, from the step 0 on. */
        int tally(int what) {
            switch (what) {
                case 0: return gates.passedWords.sum();
                case 1: return gates.vainLetters.sum();
                case 2: return words.timesBack.sum();
                default: return idleSteps;
            }
        }

        void copyFrom(World other) {
            if (other != null) {
                tides.copyFrom(other.tides);
                gates.copyFrom(other.gates);
                words.copyFrom(other.words);
                steps = other.steps;
                letters = other.letters;
                idleSteps = other.idleSteps;
            }
        }
    }

    /** The text that words are read from. */
    private static final class Pad {
        final Cells codes = new Cells(PAD_SIZE);
        int length;

        void append(int code) {
            if (length < PAD_SIZE) {
                codes.set(length, code);
                length++;
            }
        }

        int wordsInside() {
            int words = 1;
            for (int i = 0; i < length; i++) {
                words += codes.get(i) == ',' ? 1 : 0;
            }
            return words;
        }

        int faultPlace() {
            int letters = 0;
            for (int i = 0; i < length; i++) {
                int code = codes.get(i);
                boolean isLetter = code >= 'a' && code <= 'z';
                boolean canStand = isLetter ? letters < MOST_LETTERS : code == ',' && letters > 0;
                if (!canStand) {
                    return i;
                }
                letters = isLetter ? letters + 1 : 0;
            }
            return letters == 0 ? length : NONE;
        }
    }
}
