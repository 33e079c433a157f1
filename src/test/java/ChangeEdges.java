/** The edges of the promises 1 to 7. */
final class ChangeEdges {
    private ChangeEdges() {
    }

    static void all() {
        newObject();
        changes();
        tideRanges();
        tideReturns();
        gauge();
        gateRanges();
        gateReturns();
        gateWithWord();
        shut();
        shutAlready();
        put();
        putReturns();
        putFaults();
        putTooMany();
        runRange();
        runReturns();
        runTooMany();
    }

    private static void newObject() {
        Due.says("Promise 1", "Creates stores without words, at the step 0.");
        TideWords x = new TideWords();
        Due.due("steps", x.count(0), 0);
        Due.due("words", x.count(1), 0);
        Due.each("words in the rows", store -> x.store(store, 6), 0, 0);
        Due.each("letters in the rows", store -> x.store(store, 7), 0, 0);
        Due.each("the first places", store -> x.at(store, 0), TideWords.NO_SUCH, TideWords.NO_SUCH);
        Due.each("words in the gates", gate -> x.gateOf(gate, 5), TideWords.NONE, TideWords.NONE, TideWords.NONE, TideWords.NONE);
        Due.due("word(0, 0)", x.word(0, 0), TideWords.NO_SUCH);
        Due.due("the pad", x.wipe(), 0);
        Due.due("the history", x.undo(), TideWords.NOT_POSSIBLE);
        Due.each("the slots", x::restore, TideWords.NOT_POSSIBLE, TideWords.NOT_POSSIBLE);
        Given.bring(x, 0, "a");
        x.run(7);
        x.save(0);
        x.write('b');
        TideWords y = new TideWords();
        Due.each("another object knows nothing of it", y::count, 0, 0, 0, 0, 0, 0, 0, 15, 0, 0, 0);
        Due.due("nor its slots", y.restore(0), TideWords.NOT_POSSIBLE);
    }

    private static void changes() {
        Due.says("Texts", "Ahead of the calls `tide`, `gauge`, `gate`, `shut`, `put`, `run` the interface says: ---- changes.");
        TideWords x = new TideWords();
        x.write('a');
        Due.due("write() is none", x.count(10), 0);
        Due.says("Promise 2", "Changes the tide of a store. This is a change.");
        x.tide(0, 100, 30, 24);
        Due.due("count(10)", x.count(10), 1);
        Due.says("Promise 3", "Changes by how much the gauge of a store lies. This is a change.");
        x.gauge(0, 0);
        Due.due("count(10)", x.count(10), 2);
        Due.says("Promise 4", "Changes a gate. This is a change.");
        x.gate(0, 0, 5, 0);
        Due.due("count(10)", x.count(10), 3);
        Due.says("Promise 5", "Shuts a gate by hand, or lets it be. This is a change.");
        x.shut(0, true);
        Due.due("count(10)", x.count(10), 4);
        x.shut(0, false);
        Due.due("count(10)", x.count(10), 5);
        x.undo();
        x.undo();
        Due.says("Promise 6", "This is a change.");
        x.put(0);
        Due.due("count(10)", x.count(10), 4);
        Due.says("Promise 7", "Makes steps. This is a change.");
        x.run(1);
        Due.due("count(10)", x.count(10), 5);
    }

    private static void tideRanges() {
        TideWords x = new TideWords();
        Due.says("Promise 2", "`mean`: 0 to 300");
        Due.due("the least mean", x.tide(0, 0, 30, 24), -30);
        Due.due("the greatest mean", x.tide(0, 300, 30, 24), 270);
        Due.refused("tide(0, .., 30, 24)", mean -> x.tide(0, mean, 30, 24), 0, 300, TideWords.BAD_VALUE);
        Due.says("Promise 2", "`swing`: 0 to 100");
        Due.due("the least swing", x.tide(0, 100, 0, 24), 100);
        Due.due("the greatest swing", x.tide(0, 100, 100, 24), 0);
        Due.refused("tide(0, 100, .., 24)", swing -> x.tide(0, 100, swing, 24), 0, 100, TideWords.BAD_VALUE);
        Due.says("Promise 2", "`period`: 2 to 60");
        Due.due("the shortest period", x.tide(0, 100, 30, 2), 70);
        Due.due("the longest period", x.tide(0, 100, 30, 60), 70);
        Due.refused("tide(0, 100, 30, ..)", period -> x.tide(0, 100, 30, period), 2, 60, TideWords.BAD_VALUE);
        Due.each("no refused one is kept", what -> x.store(0, what), 100, 30, 60);
        Due.says("Promise 2", "NO_SUCH if there is no such store;");
        Due.refused("tide(.., 100, 30, 24)", store -> x.tide(store, 100, 30, 24), 0, 1, TideWords.NO_SUCH);
        Due.due("the store 1", x.tide(1, 100, 30, 24), 70);
        Due.says("Promise 2", "BAD_VALUE if another argument is out of range.");
        Due.due("all out of range", x.tide(1, 301, 101, 61), TideWords.BAD_VALUE);
        Due.due("all but the mean", x.tide(1, 300, -1, 1), TideWords.BAD_VALUE);
        Due.each("the store 1 is as it was", what -> x.store(1, what), 100, 30, 24);
    }

    private static void tideReturns() {
        Due.says("Promise 2", "Returns the level then;");
        TideWords x = new TideWords();
        x.gauge(0, 50);
        x.run(6);
        Due.due("not the told one, and not the one before", x.tide(0, 200, 40, 24), 200);
        Due.due("the told one", x.store(0, 5), 250);
        Due.due("below 0", x.tide(1, 0, 100, 6), -100);
    }

    private static void gauge() {
        TideWords x = new TideWords();
        Due.says("Promise 3", "Returns the lie before;");
        Due.due("0 at first", x.gauge(0, 7), 0);
        Due.due("the one before", x.gauge(0, -7), 7);
        Due.due("of the other store", x.gauge(1, 3), 0);
        Due.due("the same again", x.gauge(0, -7), -7);
        Due.says("Promise 3", "`lie`: -50 to 50");
        x.gauge(0, -50);
        Due.due("the least", x.store(0, 3), -50);
        x.gauge(0, 50);
        Due.due("the greatest", x.store(0, 3), 50);
        Due.says("Promise 3", "BAD_VALUE if lie is out of range.");
        Due.refused("gauge(0, ..)", lie -> x.gauge(0, lie), -50, 50, TideWords.BAD_VALUE);
        Due.due("no refused one is kept", x.store(0, 3), 50);
        Due.says("Promise 3", "NO_SUCH if there is no such store;");
        Due.refused("gauge(.., 0)", store -> x.gauge(store, 0), 0, 1, TideWords.NO_SUCH);
    }

    private static void gateRanges() {
        TideWords x = new TideWords();
        Due.says("Promise 4", "`side`: 0 or 1");
        x.gate(0, 1, 5, 0);
        Due.due("1", x.gateOf(0, 0), 1);
        x.gate(0, 0, 5, 0);
        Due.due("0", x.gateOf(0, 0), 0);
        Due.refused("gate(0, .., 5, 0)", side -> x.gate(0, side, 5, 0), 0, 1, TideWords.BAD_VALUE);
        Due.says("Promise 4", "`slack`: 0 to 99");
        x.gate(0, 0, 99, 0);
        Due.due("99", x.gateOf(0, 1), 99);
        x.gate(0, 0, 0, 0);
        Due.due("0", x.gateOf(0, 1), 0);
        Due.refused("gate(0, 0, .., 0)", slack -> x.gate(0, 0, slack, 0), 0, 99, TideWords.BAD_VALUE);
        Due.says("Promise 4", "`way`: 0 or 1");
        x.gate(0, 0, 5, 1);
        Due.due("1", x.gateOf(0, 2), 1);
        x.gate(0, 0, 5, 0);
        Due.due("0", x.gateOf(0, 2), 0);
        Due.refused("gate(0, 0, 5, ..)", way -> x.gate(0, 0, 5, way), 0, 1, TideWords.BAD_VALUE);
        Due.says("Promise 4", "BAD_VALUE if another argument is out of range;");
        Due.due("all", x.gate(0, 2, 100, 2), TideWords.BAD_VALUE);
        Due.each("no refused one is kept", what -> x.gateOf(0, what), 0, 5, 0);
        Due.says("Promise 4", "NO_SUCH if there is no such gate;");
        Due.refused("gate(.., 0, 5, 0)", gate -> x.gate(gate, 0, 5, 0), 0, 3, TideWords.NO_SUCH);
        Due.due("the gate 3", x.gate(3, 0, 5, 0), 5);
    }

    private static void gateReturns() {
        Due.says("Promise 4", "Returns the slack before;");
        TideWords x = new TideWords();
        Due.due("5 at first", x.gate(3, 0, 99, 0), 5);
        Due.due("99 then", x.gate(3, 0, 0, 0), 99);
        Due.due("0 then", x.gate(3, 0, 0, 0), 0);
        Due.due("another one", x.gate(2, 0, 0, 0), 5);
    }

    private static void gateWithWord() {
        Due.says("Promise 4", "NOT_POSSIBLE if it has a word, and the side would be another one.");
        TideWords x = Given.steady();
        Given.bring(x, 0, "ab");
        Given.bring(x, 1, "cd");
        Due.due("a word that waits", x.gate(0, 1, 5, 0), 5);
        x.gate(0, 0, 5, 0);
        x.run(1);
        Due.due("the word 0, to 1", x.gate(0, 1, 5, 0), TideWords.NOT_POSSIBLE);
        Due.due("the word 1, to 0", x.gate(1, 0, 5, 0), TideWords.NOT_POSSIBLE);
        Due.each("nothing has changed", what -> x.gateOf(0, what), 0, 5, 0, 0, 1, 0, 1);
        Due.due("the same side", x.gate(0, 0, 7, 1), 5);
        Due.due("its slack", x.gateOf(0, 1), 7);
        Due.due("its way", x.gateOf(0, 2), 1);
        Due.due("a gate without a word", x.gate(2, 1, 5, 0), 5);
        Due.due("another one", x.gate(3, 0, 5, 0), 5);
        x.run(1);
        Due.due("once the word has passed", x.gate(0, 1, 5, 0), 7);
        Due.due("once the other one has", x.gate(1, 0, 5, 0), 5);
    }

    private static void shut() {
        TideWords x = new TideWords();
        Due.says("Promise 5", "Returns how many gates are shut by hand then;");
        Due.each("shut", gate -> x.shut(gate, true), 1, 2, 3, 4);
        Due.due("one is open again", x.shut(2, false), 3);
        x.shut(0, false);
        x.shut(1, false);
        Due.due("all are", x.shut(3, false), 0);
        TideWords closed = Given.levels(0, 300);
        Due.due("closed ones are not shut by hand", closed.shut(1, true), 1);
        Due.says("Promise 5", "NO_SUCH if there is no such gate;");
        Due.refused("shut(.., true)", gate -> x.shut(gate, true), 0, 3, TideWords.NO_SUCH);
        Due.refused("shut(.., false)", gate -> x.shut(gate, false), 0, 3, TideWords.NO_SUCH);
    }

    private static void shutAlready() {
        Due.says("Promise 5", "NOT_POSSIBLE if it is so already.");
        TideWords x = new TideWords();
        Due.each("not shut yet", gate -> x.shut(gate, false), TideWords.NOT_POSSIBLE, TideWords.NOT_POSSIBLE, TideWords.NOT_POSSIBLE, TideWords.NOT_POSSIBLE);
        x.shut(1, true);
        Due.due("shut", x.shut(1, true), TideWords.NOT_POSSIBLE);
        Due.due("still shut", x.gateOf(1, 3), 1);
        x.shut(1, false);
        Due.due("let be", x.shut(1, false), TideWords.NOT_POSSIBLE);
        Due.due("still not shut", x.gateOf(1, 3), 0);
        Due.due("refused ones are no changes", x.count(10), 2);
    }

    private static void put() {
        Due.says("Promise 6", "Puts the words of the pad at the end of the row of a store, one behind the other, not passed, and empties the pad.");
        TideWords x = Given.steady();
        Given.bring(x, 1, "p");
        x.run(1);
        Given.bring(x, 0, "ab,c");
        Given.type(x, "d,efghij");
        x.put(0);
        Due.each("the row 0", place -> x.at(0, place), 0, 1, 2, 3, 4, TideWords.NO_SUCH);
        Due.each("their letters", word -> x.word(word, 2), 1, 2, 1, 1, 6);
        Due.each("passed", word -> x.word(word, 3), 1, 0, 0, 0, 0);
        Due.each("steps", word -> x.word(word, 4), 0, TideWords.NONE, TideWords.NONE, TideWords.NONE, TideWords.NONE);
        Due.each("gates", word -> x.word(word, 5), 1, TideWords.NONE, TideWords.NONE, TideWords.NONE, TideWords.NONE);
        Due.due("the length of the pad", x.count(9), 0);
        Due.due("the fault of the pad", x.fault(), 0);
        Due.due("nothing to put", x.put(0), TideWords.BAD_TEXT);
    }

    private static void putReturns() {
        TideWords x = Given.steady();
        Due.says("Promise 6", "Returns how many words there are then;");
        Due.due("one", Given.bring(x, 0, "a"), 1);
        Due.due("three", Given.bring(x, 1, "b,c"), 3);
        x.run(1);
        Due.due("words that passed are still there", Given.bring(x, 1, "d"), 4);
        Due.says("Promise 6", "NO_SUCH if there is no such store;");
        x.write('e');
        Due.refused("put", x::put, 0, 1, TideWords.NO_SUCH);
        Due.due("the pad is as it was", x.count(9), 1);
    }

    private static void putFaults() {
        Due.says("Promise 6", "BAD_TEXT if the pad has a fault;");
        String[] texts = {"", ",", "a,", ",a", "a,,b", "abcdefg", "a,abcdefg", "A", "a.b", "a,1"};
        for (String text : texts) {
            TideWords x = new TideWords();
            Given.type(x, text);
            Due.due("put(0) of '" + text + "'", x.put(0), TideWords.BAD_TEXT);
            Due.due("the pad is kept", x.count(9), text.length());
            Due.due("no words", x.count(1), 0);
            Due.due("no change", x.count(10), 0);
        }
    }

    private static void putTooMany() {
        Due.says("Promise 6", "TOO_MANY if there would be more than 12.");
        TideWords x = new TideWords();
        Due.due("12 at once", Given.bring(x, 0, Given.TWELVE), 12);
        Due.due("one more", Given.bring(x, 1, "m"), TideWords.TOO_MANY);
        TideWords y = Given.steady();
        Due.due("13 at once", Given.bring(y, 0, "a,b,c,d,e,f,g,h,i,j,k,l,m"), TideWords.TOO_MANY);
        Due.due("none of them is there", y.count(1), 0);
        Due.due("the pad is kept", y.count(9), 25);
        Given.bring(y, 1, "a,b,c,d,e,f,gg,hh,i,j");
        y.run(4);
        Due.each("words: some passed, some in gates", y::count, 4, 10, 6, 2, 2);
        Due.due("3 more", Given.bring(y, 0, "k,l,m"), TideWords.TOO_MANY);
        Due.due("2 more", Given.bring(y, 0, "k,l"), 12);
        y.run(500);
        Due.due("one more when all have passed", Given.bring(y, 0, "m"), TideWords.TOO_MANY);
        y.undo();
        y.undo();
        Due.due("one more when the last two are undone", y.put(0), 11);
    }

    private static void runRange() {
        TideWords x = new TideWords();
        Due.says("Promise 7", "`steps`: 1 to 500");
        x.run(1);
        Due.due("one step", x.count(0), 1);
        x.run(500);
        Due.due("500 steps", x.count(0), 501);
        Due.says("Promise 7", "BAD_VALUE if steps is out of range;");
        Due.refused("run", x::run, 1, 500, TideWords.BAD_VALUE);
        Due.due("no steps", x.count(0), 501);
    }

    private static void runReturns() {
        Due.says("Promise 7", "Returns how many words pass in them;");
        TideWords x = Given.steady();
        Due.due("without words", x.run(1), 0);
        Given.bring(x, 0, "a,bbb,c");
        Given.bring(x, 1, "d");
        Due.due("in one", x.run(1), 2);
        Due.due("in the next one", x.run(1), 1);
        Due.due("in the next one", x.run(1), 1);
        Due.due("in 500 more", x.run(500), 0);
        TideWords y = Given.twelve();
        Due.due("all of 12", y.run(500), 12);
    }

    private static void runTooMany() {
        Due.says("Promise 7", "TOO_MANY if the steps would be above 99999.");
        TideWords x = new TideWords();
        Given.run(x, 99998);
        Due.due("two more", x.run(2), TideWords.TOO_MANY);
        Due.due("no steps", x.count(0), 99998);
        Due.due("one more", x.run(1), 0);
        Due.due("steps", x.count(0), 99999);
        Due.due("one more", x.run(1), TideWords.TOO_MANY);
        Due.due("500 more", x.run(500), TideWords.TOO_MANY);
        x.undo();
        Due.due("one undone, one more", x.run(1), 0);
        TideWords y = new TideWords();
        Given.run(y, 99500);
        Due.due("500 more", y.run(500), TideWords.TOO_MANY);
        Due.due("499 more", y.run(499), 0);
    }
}
