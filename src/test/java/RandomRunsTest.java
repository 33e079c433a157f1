/** Runs of 512 calls, as many as an object is used for, each answer compared with the model's; the same runs every time. */
public final class RandomRunsTest {
    private static final int RUNS = 1000, CALLS = 512, MOST_IN_ONE = 5, MOST_IN_ALL = 290;
    private static final int[] EXTREMES = {Integer.MIN_VALUE, Integer.MIN_VALUE + 7, -1007, -51, -2, -1, 2, 4, 9, 12, 61, 101, 301, 501, 1001, 99999, Integer.MAX_VALUE - 6, Integer.MAX_VALUE};
    private static long seed;
    private static TideWords x;
    private static Model m;
    private static int run;
    private static int calls;

    public static void main(String[] args) {
        all();
        Due.finish();
    }

    static void all() {
        for (run = 0; run < RUNS; run++) {
            seed = 7919L * run + 1;
            x = new TideWords();
            m = new Model();
            calls = 0;
            int wild = run % 4 == 3 ? 20 : 3;
            boolean isCompared = run % 5 < 2;
            int most = CALLS - MOST_IN_ONE - (isCompared ? MOST_IN_ALL : 0);
            while (calls <= most) {
                oneCall(wild, run % 3);
            }
            if (isCompared) {
                compareAll();
            }
        }
    }

    private static int below(int bound) {
        seed = seed * 6364136223846793005L + 1442695040888963407L;
        return (int) ((seed >>> 33) % bound);
    }

    /** A number of a range, now and then one of its ends or one that no range has. */
    private static int pick(int low, int high, int wild) {
        int luck = below(100);
        if (luck < wild) {
            return EXTREMES[below(EXTREMES.length)];
        }
        if (luck < wild + 4) {
            return low - 1 + below(2);
        }
        if (luck < wild + 8) {
            return high + below(2);
        }
        return low + below(high - low + 1);
    }

    private static void due(String call, long got, long want) {
        calls++;
        Due.due("run " + run + ", call " + calls + ": " + call, got, want);
    }

    private static void oneCall(int wild, int kind) {
        int luck = below(100);
        if (luck < 40) {
            change(wild, kind);
        } else if (luck < 60) {
            text(wild);
        } else if (luck < 75) {
            look(wild);
        } else if (luck < 88) {
            ask(wild);
        } else {
            keep(wild);
        }
    }

    private static void change(int wild, int kind) {
        int a;
        int b;
        int c;
        int d;
        switch (below(9)) {
            case 0:
                a = pick(0, 1, wild);
                b = kind == 0 ? pick(80, 120, wild) : pick(0, 300, wild);
                c = pick(0, 100, wild);
                d = pick(2, 60, wild);
                due("tide(" + a + ", " + b + ", " + c + ", " + d + ")", x.tide(a, b, c, d), m.tide(a, b, c, d));
                break;
            case 1:
                a = pick(0, 1, wild);
                b = pick(-50, 50, wild);
                due("gauge(" + a + ", " + b + ")", x.gauge(a, b), m.gauge(a, b));
                break;
            case 2:
            case 3:
                a = pick(0, 3, wild);
                b = pick(0, 1, wild);
                c = kind == 1 ? pick(0, 20, wild) : pick(0, 99, wild);
                d = pick(0, 1, wild);
                due("gate(" + a + ", " + b + ", " + c + ", " + d + ")", x.gate(a, b, c, d), m.gate(a, b, c, d));
                break;
            case 4:
                a = pick(0, 3, wild);
                boolean isShut = below(3) == 0;
                due("shut(" + a + ", " + isShut + ")", x.shut(a, isShut), m.shut(a, isShut));
                break;
            case 5:
                a = pick(0, 1, wild);
                due("put(" + a + ")", x.put(a), m.put(a));
                break;
            default:
                a = below(12) == 0 ? pick(1, 500, wild) : pick(1, 9, wild);
                due("run(" + a + ")", x.run(a), m.run(a));
        }
    }

    private static void text(int wild) {
        int luck = below(20);
        if (luck == 0) {
            due("wipe()", x.wipe(), m.wipe());
        } else if (luck < 3) {
            long any = (long) below(1 << 30) << 34 ^ (long) below(1 << 30) << 17 ^ below(1 << 30);
            any >>>= below(64);
            due("write(" + any + ")", x.write(any), m.write(any));
        } else if (luck < 10) {
            String some = (below(3) == 0 ? "" : ",") + letters(1 + below(below(wild) == 0 ? 7 : 6));
            long number = Given.packed(some);
            due("write(" + number + ")", x.write(number), m.write(number));
        } else {
            int store = below(2);
            due("put(" + store + ")", x.put(store), m.put(store));
            due("wipe()", x.wipe(), m.wipe());
            long number = Given.packed(letters(1 + below(6)));
            due("write(" + number + ")", x.write(number), m.write(number));
        }
        due("fault()", x.fault(), m.fault());
    }

    private static String letters(int many) {
        StringBuilder text = new StringBuilder();
        for (int i = 0; i < many; i++) {
            text.append((char) ('a' + below(26)));
        }
        return text.toString();
    }

    private static void look(int wild) {
        int a = pick(0, 3, wild);
        int b = pick(0, 11, wild);
        due("store(" + a + ", " + b + ")", x.store(a, b), m.store(a, b));
        due("gateOf(" + a + ", " + b + ")", x.gateOf(a, b), m.gateOf(a, b));
        due("word(" + b + ", " + a + ")", x.word(b, a), m.word(b, a));
        due("at(" + a + ", " + b + ")", x.at(a, b), m.at(a, b));
        due("count(" + b + ")", x.count(b), m.count(b));
    }

    private static void ask(int wild) {
        int gate = pick(0, 3, wild);
        int word = pick(0, 11, wild);
        int store = pick(0, 1, wild);
        int steps = pick(1, 1000, wild);
        int what = pick(0, 3, wild);
        switch (below(6)) {
            case 0: due("untilOpen(" + gate + ")", x.untilOpen(gate), m.untilOpen(gate)); break;
            case 1: due("openFor(" + gate + ")", x.openFor(gate), m.openFor(gate)); break;
            case 2: due("untilPassed(" + word + ")", x.untilPassed(word), m.untilPassed(word)); break;
            case 3: due("ifRun(" + steps + ", " + what + ")", x.ifRun(steps, what), m.ifRun(steps, what)); break;
            case 4: due("leastSlack(" + gate + ", " + store + ")", x.leastSlack(gate, store), m.leastSlack(gate, store)); break;
            default: due("bestLie(" + store + ", " + gate + ")", x.bestLie(store, gate), m.bestLie(store, gate));
        }
    }

    private static void keep(int wild) {
        int slot = pick(0, 1, wild);
        switch (below(4)) {
            case 0: due("save(" + slot + ")", x.save(slot), m.save(slot)); break;
            case 1: due("restore(" + slot + ")", x.restore(slot), m.restore(slot)); break;
            default: due("undo()", x.undo(), m.undo());
        }
    }

    private static void compareAll() {
        for (int what = 0; what <= 11; what++) {
            due("count(" + what + ")", x.count(what), m.count(what));
        }
        for (int what = 0; what <= 9; what++) {
            for (int i = 0; i < 4; i++) {
                due("gateOf(" + i + ", " + what + ")", x.gateOf(i, what), m.gateOf(i, what));
            }
            due("store(0, " + what + ")", x.store(0, what), m.store(0, what));
            due("store(1, " + what + ")", x.store(1, what), m.store(1, what));
        }
        for (int word = 0; word <= m.count(1); word++) {
            for (int what = 0; what <= 13; what++) {
                due("word(" + word + ", " + what + ")", x.word(word, what), m.word(word, what));
            }
            due("at(0, " + word + ")", x.at(0, word), m.at(0, word));
            due("at(1, " + word + ")", x.at(1, word), m.at(1, word));
        }
        Due.isTrue(calls <= CALLS, "run " + run + " has " + calls + " calls");
    }
}
