import java.util.ArrayDeque;
import java.util.ArrayList;
import java.util.Comparator;
import java.util.List;

/** The document once more, said as directly as Java can, to compare the answers of long runs with. */
final class Model {
    static final int NO_SUCH = -1001, BAD_VALUE = -1002, BAD_TEXT = -1003, TOO_MANY = -1004, NOT_POSSIBLE = -1005, NONE = -1006;

    private static final class Store {
        int mean = 100, swing = 30, period, lie;
        ArrayList<Integer> row = new ArrayList<>();

        Store copy() {
            Store s = new Store();
            s.mean = mean;
            s.swing = swing;
            s.period = period;
            s.lie = lie;
            s.row = new ArrayList<>(row);
            return s;
        }

        int level(int t) {
            int p = t - t / period * period;
            int lesser = p < period - p ? p : period - p;
            return mean - swing + Math.floorDiv(4 * swing * lesser, period);
        }
    }

    private static final class Gate {
        int side, slack = 5, way, done, passed, vain;
        boolean shut;
        Integer word;

        Gate copy() {
            Gate g = new Gate();
            g.side = side;
            g.slack = slack;
            g.way = way;
            g.done = done;
            g.passed = passed;
            g.vain = vain;
            g.shut = shut;
            g.word = word;
            return g;
        }
    }

    private static final class Word {
        String text;
        int step = NONE, gate = NONE, backs;

        boolean passed() {
            return step != NONE;
        }

        Word copy() {
            Word w = new Word();
            w.text = text;
            w.step = step;
            w.gate = gate;
            w.backs = backs;
            return w;
        }
    }

    private static final class State {
        List<Store> stores = new ArrayList<>();
        List<Gate> gates = new ArrayList<>();
        List<Word> words = new ArrayList<>();
        int steps, letters, idle;

        State copy() {
            State s = new State();
            stores.forEach(e -> s.stores.add(e.copy()));
            gates.forEach(e -> s.gates.add(e.copy()));
            words.forEach(e -> s.words.add(e.copy()));
            s.steps = steps;
            s.letters = letters;
            s.idle = idle;
            return s;
        }

        int told(int store, int t) {
            return stores.get(store).level(t) + stores.get(store).lie;
        }

        boolean open(int gate, int t) {
            int a = told(0, t);
            int b = told(1, t);
            return (a > b ? a - b : b - a) <= gates.get(gate).slack && !gates.get(gate).shut;
        }

        int passed() {
            return (int) words.stream().filter(Word::passed).count();
        }

        int vain() {
            return gates.stream().mapToInt(g -> g.vain).sum();
        }

        int backs() {
            return words.stream().mapToInt(w -> w.backs).sum();
        }

        State after(int many) {
            State s = copy();
            for (int i = 0; i < many; i++) {
                s.step();
            }
            return s;
        }

        void step() {
            boolean any = false;
            for (int i = 0; i < 4; i++) {
                Gate g = gates.get(i);
                boolean open = open(i, steps);
                any |= open;
                if (open && g.word == null) {
                    take(g);
                }
                if (open && g.word != null) {
                    pass(g, i);
                } else if (!open && g.word != null && g.way == 0) {
                    back(g);
                }
            }
            if (!any) {
                idle++;
            }
            steps++;
        }

        private void take(Gate g) {
            List<Integer> row = stores.get(g.side).row;
            for (Integer w : row) {
                if (!words.get(w).passed()) {
                    row.remove(w);
                    g.word = w;
                    return;
                }
            }
        }

        private void pass(Gate g, int number) {
            Word w = words.get(g.word);
            g.done++;
            letters++;
            if (g.done == w.text.length()) {
                w.step = steps;
                w.gate = number;
                stores.get(g.side == 0 ? 1 : 0).row.add(g.word);
                g.word = null;
                g.done = 0;
                g.passed++;
            }
        }

        private void back(Gate g) {
            stores.get(g.side).row.add(0, g.word);
            words.get(g.word).backs++;
            g.vain += g.done;
            g.done = 0;
            g.word = null;
        }
    }

    private State s = new State();
    private final ArrayDeque<State> history = new ArrayDeque<>();
    private final State[] slots = new State[2];
    private String pad = "";

    Model() {
        for (int i = 0; i < 2; i++) {
            Store store = new Store();
            store.period = i == 0 ? 24 : 20;
            s.stores.add(store);
        }
        for (int i = 0; i < 4; i++) {
            Gate gate = new Gate();
            gate.side = i % 2;
            s.gates.add(gate);
        }
    }

    private static boolean in(int x, int low, int high) {
        return low <= x && x <= high;
    }

    private void change() {
        history.addLast(s.copy());
        if (history.size() > 6) {
            history.removeFirst();
        }
    }

    int tide(int store, int mean, int swing, int period) {
        if (!in(store, 0, 1)) return NO_SUCH;
        if (!in(mean, 0, 300) || !in(swing, 0, 100) || !in(period, 2, 60)) return BAD_VALUE;
        change();
        Store e = s.stores.get(store);
        e.mean = mean;
        e.swing = swing;
        e.period = period;
        return e.level(s.steps);
    }

    int gauge(int store, int lie) {
        if (!in(store, 0, 1)) return NO_SUCH;
        if (!in(lie, -50, 50)) return BAD_VALUE;
        change();
        int old = s.stores.get(store).lie;
        s.stores.get(store).lie = lie;
        return old;
    }

    int gate(int gate, int side, int slack, int way) {
        if (!in(gate, 0, 3)) return NO_SUCH;
        if (!in(side, 0, 1) || !in(slack, 0, 99) || !in(way, 0, 1)) return BAD_VALUE;
        Gate g = s.gates.get(gate);
        if (g.word != null && g.side != side) return NOT_POSSIBLE;
        change();
        int old = g.slack;
        g.side = side;
        g.slack = slack;
        g.way = way;
        return old;
    }

    int shut(int gate, boolean isShut) {
        if (!in(gate, 0, 3)) return NO_SUCH;
        if (s.gates.get(gate).shut == isShut) return NOT_POSSIBLE;
        change();
        s.gates.get(gate).shut = isShut;
        return (int) s.gates.stream().filter(g -> g.shut).count();
    }

    int put(int store) {
        if (!in(store, 0, 1)) return NO_SUCH;
        if (fault() != NONE) return BAD_TEXT;
        String[] texts = pad.split(",");
        if (s.words.size() + texts.length > 12) return TOO_MANY;
        change();
        for (String text : texts) {
            Word w = new Word();
            w.text = text;
            s.stores.get(store).row.add(s.words.size());
            s.words.add(w);
        }
        pad = "";
        return s.words.size();
    }

    int run(int steps) {
        if (!in(steps, 1, 500)) return BAD_VALUE;
        if (s.steps + steps > 99999) return TOO_MANY;
        change();
        int before = s.passed();
        s = s.after(steps);
        return s.passed() - before;
    }

    int store(int store, int what) {
        if (!in(store, 0, 1)) return NO_SUCH;
        if (!in(what, 0, 8)) return BAD_VALUE;
        Store e = s.stores.get(store);
        return new int[] {e.mean, e.swing, e.period, e.lie, e.level(s.steps), s.told(store, s.steps), e.row.size(),
            e.row.stream().mapToInt(w -> s.words.get(w).text.length()).sum(),
            (int) e.row.stream().filter(w -> !s.words.get(w).passed()).count()}[what];
    }

    int gateOf(int gate, int what) {
        if (!in(gate, 0, 3)) return NO_SUCH;
        if (!in(what, 0, 8)) return BAD_VALUE;
        Gate g = s.gates.get(gate);
        return new int[] {g.side, g.slack, g.way, g.shut ? 1 : 0, s.open(gate, s.steps) ? 1 : 0,
            g.word == null ? NONE : g.word, g.done, g.passed, g.vain}[what];
    }

    int word(int word, int what) {
        if (!in(word, 0, s.words.size() - 1)) return NO_SUCH;
        if (what < 0) return BAD_VALUE;
        Word w = s.words.get(word);
        if (what > 6) return what - 7 < w.text.length() ? w.text.charAt(what - 7) : NONE;
        int where = NONE;
        int place = NONE;
        for (int i = 0; i < 4; i++) {
            Integer held = s.gates.get(i).word;
            if (held != null && held == word) where = 2 + i;
        }
        for (int i = 0; i < 2; i++) {
            int found = s.stores.get(i).row.indexOf(word);
            if (found >= 0) {
                where = i;
                place = found;
            }
        }
        return new int[] {where, place, w.text.length(), w.passed() ? 1 : 0, w.step, w.gate, w.backs}[what];
    }

    int at(int store, int place) {
        if (!in(store, 0, 1) || !in(place, 0, s.stores.get(store).row.size() - 1)) return NO_SUCH;
        return s.stores.get(store).row.get(place);
    }

    int count(int what) {
        if (!in(what, 0, 10)) return BAD_VALUE;
        int mask = 0;
        for (int i = 0; i < 4; i++) {
            if (s.open(i, s.steps)) mask += 1 << i;
        }
        int inGates = (int) s.gates.stream().filter(g -> g.word != null).count();
        return new int[] {s.steps, s.words.size(), s.passed(), s.words.size() - s.passed() - inGates, inGates, s.letters,
            s.vain(), mask, s.idle, pad.length(), history.size()}[what];
    }

    int untilOpen(int gate) {
        if (!in(gate, 0, 3)) return NO_SUCH;
        for (int i = 0; i < 4000; i++) {
            if (s.open(gate, s.steps + i)) return i;
        }
        return NONE;
    }

    int openFor(int gate) {
        int first = untilOpen(gate);
        if (first < 0) return first;
        int last = first;
        while (last - first < 4000 && s.open(gate, s.steps + last)) last++;
        return last - first;
    }

    int untilPassed(int word) {
        if (!in(word, 0, s.words.size() - 1)) return NO_SUCH;
        State t = s.copy();
        for (int i = 0; i <= 1000; i++) {
            if (t.words.get(word).passed()) return i;
            t.step();
        }
        return NONE;
    }

    int ifRun(int steps, int what) {
        if (!in(steps, 1, 1000) || !in(what, 0, 3)) return BAD_VALUE;
        State t = s.after(steps);
        return new int[] {t.passed() - s.passed(), t.vain() - s.vain(), t.backs() - s.backs(), t.idle - s.idle}[what];
    }

    int leastSlack(int gate, int what) {
        if (!in(gate, 0, 3)) return NO_SUCH;
        if (!in(what, 0, 1)) return BAD_VALUE;
        int best = -1;
        int most = -1;
        for (int slack = 99; slack >= 0; slack--) {
            State t = s.copy();
            t.gates.get(gate).slack = slack;
            int passing = t.after(200).passed() - s.passed();
            if (passing >= most) {
                best = slack;
                most = passing;
            }
        }
        return what == 0 ? best : most;
    }

    int bestLie(int store, int gate) {
        if (!in(store, 0, 1) || !in(gate, 0, 3)) return NO_SUCH;
        List<int[]> tried = new ArrayList<>();
        for (int lie = -50; lie <= 50; lie++) {
            State t = s.copy();
            t.gates.get(gate).shut = false;
            t.stores.get(store).lie = lie;
            int open = 0;
            for (int i = 0; i < 200; i++) {
                open += t.open(gate, s.steps + i) ? 1 : 0;
            }
            tried.add(new int[] {-open, Math.abs(lie), lie});
        }
        tried.sort(Comparator.<int[]>comparingInt(e -> e[0]).thenComparingInt(e -> e[1]).thenComparingInt(e -> e[2]));
        return tried.get(0)[2];
    }

    int write(long characters) {
        StringBuilder text = new StringBuilder();
        boolean ended = false;
        for (int i = 0; i < 8; i++) {
            int code = (int) (characters >> 8 * i & 255);
            if (code == 0) {
                ended = true;
            } else if (ended || !in(code, 33, 126)) {
                return BAD_VALUE;
            } else {
                text.insert(0, (char) code);
            }
        }
        if (text.length() == 0) return BAD_VALUE;
        if (pad.length() + text.length() > 60) return TOO_MANY;
        pad += text;
        return pad.length();
    }

    int wipe() {
        int old = pad.length();
        pad = "";
        return old;
    }

    int fault() {
        for (int i = 0; i < pad.length(); i++) {
            if (!pad.substring(0, i + 1).matches("([a-z]{1,6},)*[a-z]{0,6}")) return i;
        }
        return pad.matches("[a-z]{1,6}(,[a-z]{1,6})*") ? NONE : pad.length();
    }

    int undo() {
        if (history.isEmpty()) return NOT_POSSIBLE;
        s = history.removeLast();
        return history.size();
    }

    int save(int slot) {
        if (!in(slot, 0, 1)) return BAD_VALUE;
        slots[slot] = s.copy();
        return s.steps;
    }

    int restore(int slot) {
        if (!in(slot, 0, 1)) return BAD_VALUE;
        if (slots[slot] == null) return NOT_POSSIBLE;
        change();
        s = slots[slot].copy();
        return s.steps;
    }
}
