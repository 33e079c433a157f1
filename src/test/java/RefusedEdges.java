import java.util.function.Supplier;

/** Each error of each call: the call changes nothing. */
final class RefusedEdges {
    private RefusedEdges() {
    }

    static void all() {
        Due.says("Terms", "A call that returns an error changes nothing.");
        noSuch();
        badValue();
        badText();
        tooMany();
        notPossible();
    }

    private static void noSuch() {
        Supplier<TideWords> busy = Given::busy;
        int error = TideWords.NO_SUCH;
        Twins.refused("tide(2, 0, 0, 2)", error, busy, x -> x.tide(2, 0, 0, 2));
        Twins.refused("gauge(-1, 9)", error, busy, x -> x.gauge(-1, 9));
        Twins.refused("gate(4, 0, 9, 1)", error, busy, x -> x.gate(4, 0, 9, 1));
        Twins.refused("shut(-1, true)", error, busy, x -> x.shut(-1, true));
        Twins.refused("put(2) of a good text", error, RefusedEdges::busyWithText, x -> x.put(2));
        Twins.refused("put(2)", error, busy, x -> x.put(2));
        Twins.refused("store(2, 0)", error, busy, x -> x.store(2, 0));
        Twins.refused("gateOf(4, 0)", error, busy, x -> x.gateOf(4, 0));
        Twins.refused("word(4, 0)", error, busy, x -> x.word(4, 0));
        Twins.refused("at(0, 3)", error, busy, x -> x.at(0, 3));
        Twins.refused("untilOpen(4)", error, busy, x -> x.untilOpen(4));
        Twins.refused("openFor(-1)", error, busy, x -> x.openFor(-1));
        Twins.refused("untilPassed(4)", error, busy, x -> x.untilPassed(4));
        Twins.refused("leastSlack(4, 0)", error, busy, x -> x.leastSlack(4, 0));
        Twins.refused("bestLie(2, 0)", error, busy, x -> x.bestLie(2, 0));
        Twins.refused("bestLie(0, 4)", error, busy, x -> x.bestLie(0, 4));
    }

    private static void badValue() {
        Supplier<TideWords> busy = Given::busy;
        int error = TideWords.BAD_VALUE;
        Twins.refused("tide(0, 301, 1, 2)", error, busy, x -> x.tide(0, 301, 1, 2));
        Twins.refused("tide(0, 1, 101, 2)", error, busy, x -> x.tide(0, 1, 101, 2));
        Twins.refused("tide(0, 1, 1, 61)", error, busy, x -> x.tide(0, 1, 1, 61));
        Twins.refused("gauge(1, -51)", error, busy, x -> x.gauge(1, -51));
        Twins.refused("gate(0, 2, 9, 1)", error, busy, x -> x.gate(0, 2, 9, 1));
        Twins.refused("gate(0, 1, 100, 1)", error, busy, x -> x.gate(0, 1, 100, 1));
        Twins.refused("gate(0, 1, 9, 2)", error, busy, x -> x.gate(0, 1, 9, 2));
        Twins.refused("run(0)", error, busy, x -> x.run(0));
        Twins.refused("run(501)", error, busy, x -> x.run(501));
        Twins.refused("store(0, 9)", error, busy, x -> x.store(0, 9));
        Twins.refused("gateOf(0, 9)", error, busy, x -> x.gateOf(0, 9));
        Twins.refused("word(0, -1)", error, busy, x -> x.word(0, -1));
        Twins.refused("count(11)", error, busy, x -> x.count(11));
        Twins.refused("ifRun(1001, 0)", error, busy, x -> x.ifRun(1001, 0));
        Twins.refused("ifRun(1, 4)", error, busy, x -> x.ifRun(1, 4));
        Twins.refused("leastSlack(0, 2)", error, busy, x -> x.leastSlack(0, 2));
        Twins.refused("write(0)", error, busy, x -> x.write(0));
        Twins.refused("write of a, and a code 32 behind", error, busy, x -> x.write('a' << 8 | 32));
        Twins.refused("write of a, and a code 32 ahead", error, busy, x -> x.write(32 << 8 | 'a'));
        Twins.refused("write of a, and more above 0", error, busy, x -> x.write((long) 'a' << 16 | 'a'));
        Twins.refused("save(2)", error, busy, x -> x.save(2));
        Twins.refused("save(-1)", error, busy, x -> x.save(-1));
        Twins.refused("restore(2)", error, busy, x -> x.restore(2));
        Twins.refused("restore(-1)", error, busy, x -> x.restore(-1));
    }

    private static TideWords busyWithText() {
        TideWords x = Given.busy();
        x.write('r');
        return x;
    }

    private static void badText() {
        Twins.refused("put(0) of 'q,'", TideWords.BAD_TEXT, Given::busy, x -> x.put(0));
        Twins.refused("put(0) of the empty pad", TideWords.BAD_TEXT, Given::twelve, x -> x.put(0));
    }

    private static void tooMany() {
        int error = TideWords.TOO_MANY;
        Twins.refused("put(0), a 13th word", error, () -> {
            TideWords x = Given.twelve();
            x.save(1);
            x.write('m');
            return x;
        }, x -> x.put(0));
        Twins.refused("run(2) at 99998", error, () -> Given.seldom(99998), x -> x.run(2));
        Twins.refused("write, a 61st character", error, () -> {
            TideWords x = Given.busy();
            Given.type(x, "r".repeat(57));
            return x;
        }, x -> x.write('s' << 8 | 't'));
    }

    private static void notPossible() {
        int error = TideWords.NOT_POSSIBLE;
        Twins.refused("gate(2, 1, 9, 0), with a word", error, Given::busy, x -> x.gate(2, 1, 9, 0));
        Twins.refused("shut(0, false)", error, Given::busy, x -> x.shut(0, false));
        Twins.refused("shut(0, true)", error, () -> {
            TideWords x = Given.busy();
            x.shut(0, true);
            return x;
        }, x -> x.shut(0, true));
        Twins.refused("undo() of nothing", error, () -> {
            TideWords x = Given.busy();
            for (int i = 0; i < 6; i++) {
                x.undo();
            }
            return x;
        }, TideWords::undo);
        Twins.refused("restore(1), nothing saved", error, Given::busy, x -> x.restore(1));
    }
}
