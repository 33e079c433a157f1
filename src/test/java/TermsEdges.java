/** The edges of the terms: conventions, stores, gates and words. */
final class TermsEdges {
    private TermsEdges() {
    }

    static void all() {
        calls512();
        errorCodes();
        orderOfErrors();
        noneIsNoError();
        numberedFromZero();
        roundedDown();
        twoStores();
        storesAtFirst();
        storesAtTheEnds();
        phases();
        toldLevels();
        rows();
        fourGates();
        gatesAtFirst();
        gatesAtTheEnds();
        slack();
        shutByHand();
        twelveWords();
        numbersAreKept();
        lettersOfWords();
        placesOfWords();
        passedOrNot();
        constants();
    }

    private static void calls512() {
        Due.says("What it is", "An object is used for at most 512 calls after it has been made; what later calls answer is free.");
        TideWords x = new TideWords();
        for (int call = 1; call <= 512; call++) {
            int lie = call % 101 - 50;
            Due.due("gauge, the call " + call, x.gauge(0, lie), call == 1 ? 0 : (call - 1) % 101 - 50);
        }
        TideWords y = Given.levels(100, 150);
        Given.bring(y, 0, "ab");
        for (int call = 6; call <= 512; call++) {
            Due.due("leastSlack, the call " + call, y.leastSlack(0, 0), 50);
        }
    }

    private static void errorCodes() {
        Due.says("Terms", "CONVENTIONS. A method that fails returns one of the error codes NO_SUCH (-1001), BAD_VALUE (-1002), BAD_TEXT (-1003), TOO_MANY (-1004) and NOT_POSSIBLE (-1005)");
        TideWords x = Given.twelve();
        Due.due("put(2)", x.put(2), -1001);
        Due.due("run(0)", x.run(0), -1002);
        Due.due("put(0) of the empty pad", x.put(0), -1003);
        x.write('m');
        Due.due("put(0) of a 13th word", x.put(0), -1004);
        Due.due("shut(0, false)", x.shut(0, false), -1005);
    }

    private static void orderOfErrors() {
        Due.says("Terms", "it names its errors in the order in which they are checked, and the first one that applies is returned.");
        TideWords x = Given.twelve();
        x.run(1);
        Due.due("tide: no store, a bad period", x.tide(2, 0, 0, 1), TideWords.NO_SUCH);
        Due.due("gauge: no store, a bad lie", x.gauge(-1, 51), TideWords.NO_SUCH);
        Due.due("gate: no gate, a bad side", x.gate(4, 2, 0, 0), TideWords.NO_SUCH);
        x.write(',');
        Due.due("put: no store, a fault, 12 words", x.put(2), TideWords.NO_SUCH);
        Due.due("put: a fault, 12 words", x.put(1), TideWords.BAD_TEXT);
        Due.due("shut: no gate, not shut", x.shut(4, false), TideWords.NO_SUCH);
        Due.due("store: no store, a bad what", x.store(2, 9), TideWords.NO_SUCH);
        Due.due("gateOf: no gate, a bad what", x.gateOf(-1, -1), TideWords.NO_SUCH);
        Due.due("word: no word, a bad what", x.word(12, -1), TideWords.NO_SUCH);
        Due.due("leastSlack: no gate, a bad what", x.leastSlack(4, 2), TideWords.NO_SUCH);
        Due.due("restore: no slot, nothing saved", x.restore(2), TideWords.BAD_VALUE);
        Given.type(x, "abcdefghijklmnopqrstuvwxyzabcdefghijklmnopqrstuvwxyzabcdefg");
        Due.due("write: a bad code, a full pad", x.write(32), TideWords.BAD_VALUE);
        TideWords gate = Given.steady();
        Given.bring(gate, 0, "abc");
        gate.run(1);
        Due.due("gate: a bad slack, the other side of a word", gate.gate(0, 1, 100, 0), TideWords.BAD_VALUE);
        TideWords late = new TideWords();
        Given.run(late, 99999);
        Due.due("run: bad steps, and too many", late.run(501), TideWords.BAD_VALUE);
        Due.due("run: bad steps, and not too many", late.run(0), TideWords.BAD_VALUE);
    }

    private static void noneIsNoError() {
        Due.says("Terms", "NONE (-1006) is not an error; it is returned only if no error applies.");
        TideWords x = Given.levels(100, 300);
        Due.due("gateOf(3, 5)", x.gateOf(3, 5), -1006);
        Due.due("gateOf(4, 5)", x.gateOf(4, 5), TideWords.NO_SUCH);
        Due.due("untilOpen(3)", x.untilOpen(3), -1006);
        Due.due("untilOpen(4)", x.untilOpen(4), TideWords.NO_SUCH);
        Due.due("openFor(3)", x.openFor(3), -1006);
        Due.due("openFor(4)", x.openFor(4), TideWords.NO_SUCH);
        Given.bring(x, 0, "ab");
        Due.due("word(0, 9)", x.word(0, 9), -1006);
        Due.due("word(1, 9)", x.word(1, 9), TideWords.NO_SUCH);
        Due.due("word(0, 4)", x.word(0, 4), -1006);
        Due.due("word(1, 4)", x.word(1, 4), TideWords.NO_SUCH);
        Due.due("untilPassed(0)", x.untilPassed(0), -1006);
        Due.due("untilPassed(1)", x.untilPassed(1), TideWords.NO_SUCH);
    }

    private static void numberedFromZero() {
        Due.says("Terms", "Everything is numbered from 0.");
        TideWords x = Given.steady();
        Given.bring(x, 1, "ab");
        Due.due("the first word", x.word(0, 0), 1);
        Due.due("the second word", x.word(1, 0), TideWords.NO_SUCH);
        Due.due("its place", x.word(0, 1), 0);
        Due.due("the first place", x.at(1, 0), 0);
        Due.due("the second place", x.at(1, 1), TideWords.NO_SUCH);
        x.run(1);
        Due.due("the first word in a gate", x.gateOf(1, 5), 0);
        x.run(1);
        Due.due("the second step", x.word(0, 4), 1);
        Due.due("the second gate", x.word(0, 5), 1);
        Due.due("the first letter", x.word(0, 7), 'a');
        x.write(',');
        Due.due("the first character", x.fault(), 0);
    }

    private static void roundedDown() {
        Due.says("Terms", "Divisions are rounded down (all numbers that are divided are 0 or more).");
        Due.due("4 * 7 * 1 / 29, above -7", level(0, 7, 29, 1), -7);
        Due.due("4 * 7 * 2 / 29, above -7", level(0, 7, 29, 2), -6);
        Due.due("4 * 1 * 1 / 3", level(100, 1, 3, 1), 100);
        Due.due("4 * 59 * 29 / 59", level(59, 59, 59, 29), 116);
        Due.due("4 * 100 * 29 / 60: 193 and a third", level(100, 100, 60, 29), 193);
        Due.due("4 * 100 * 14 / 58: 96 and more than a half", level(100, 100, 58, 14), 96);
    }

    private static void twoStores() {
        Due.says("Stores", "There are two stores, 0 and 1,");
        TideWords x = new TideWords();
        Due.refused("store(.., 0)", store -> x.store(store, 0), 0, 1, TideWords.NO_SUCH);
        Due.each("store(.., 0)", store -> x.store(store, 0), 100, 100);
    }

    private static void storesAtFirst() {
        TideWords x = new TideWords();
        Due.says("Stores", "Steps are counted from 0.");
        Due.due("count(0)", x.count(0), 0);
        Due.says("Stores", "each with a mean, 0 to 300 (100 at first),");
        Due.each("store(.., 0)", store -> x.store(store, 0), 100, 100);
        Due.says("Stores", "a swing, 0 to 100 (30 at first),");
        Due.each("store(.., 1)", store -> x.store(store, 1), 30, 30);
        Due.says("Stores", "a period, 2 to 60 (24 at first for the store 0, 20 for the store 1),");
        Due.each("store(.., 2)", store -> x.store(store, 2), 24, 20);
        Due.says("Stores", "and a gauge that lies by a number, -50 to 50 (0 at first).");
        Due.each("store(.., 3)", store -> x.store(store, 3), 0, 0);
    }

    private static void storesAtTheEnds() {
        TideWords x = new TideWords();
        for (int store = 0; store < 2; store++) {
            int which = store;
            x.tide(store, 0, 0, 2);
            x.gauge(store, -50);
            Due.each("the least", what -> x.store(which, what), 0, 0, 2, -50, 0, -50);
            x.tide(store, 300, 100, 60);
            x.gauge(store, 50);
            Due.each("the most", what -> x.store(which, what), 300, 100, 60, 50, 200, 250);
        }
    }

    /** The level of a store at a step. */
    private static int level(int mean, int swing, int period, int step) {
        TideWords x = new TideWords();
        Given.run(x, step);
        return x.tide(0, mean, swing, period);
    }

    private static void phases() {
        Due.says("Stores", "At the step t let p be what is left of t by the period:");
        Due.due("the last step of a period", level(100, 30, 60, 59), 72);
        Due.due("the first step of the next one", level(100, 30, 60, 60), 70);
        Due.due("the second step of the next one", level(100, 30, 60, 61), 72);
        Due.due("the last step that there is: 99999 is 39 by 60", level(100, 30, 60, 99999), 112);
        Due.due("99999 is 1 by 2", level(100, 30, 2, 99999), 130);
        Due.says("Stores", "the level is the mean less the swing, and 4 * swing * (the lesser one of p and the period less p) / period more.");
        Due.due("the bottom", level(100, 30, 24, 0), 70);
        Due.due("ahead of the top", level(100, 30, 24, 11), 125);
        Due.due("the top", level(100, 30, 24, 12), 130);
        Due.due("behind the top", level(100, 30, 24, 13), 125);
        Due.due("an odd period, the lower half", level(100, 30, 5, 2), 118);
        Due.due("an odd period, the upper half", level(100, 30, 5, 3), 118);
        Due.due("the shortest period", level(100, 30, 2, 1), 130);
        Due.due("the swing 0", level(100, 0, 24, 12), 100);
        Due.due("the lowest level", level(0, 100, 2, 0), -100);
        Due.due("the highest level", level(300, 100, 2, 1), 400);
    }

    private static void toldLevels() {
        Due.says("Stores", "The told level is the level and the lie, together.");
        TideWords x = new TideWords();
        x.tide(0, 0, 100, 2);
        x.gauge(0, -50);
        Due.due("the lowest", x.store(0, 5), -150);
        Due.due("its level", x.store(0, 4), -100);
        x.tide(1, 300, 100, 2);
        x.gauge(1, 50);
        x.run(1);
        Due.due("the highest", x.store(1, 5), 450);
        Due.due("its level", x.store(1, 4), 400);
    }

    private static void rows() {
        Due.says("Stores", "Each store has a row of words.");
        TideWords x = new TideWords();
        Given.bring(x, 0, "a,b");
        Given.bring(x, 1, "c");
        Due.each("at(0, ..)", place -> x.at(0, place), 0, 1, TideWords.NO_SUCH);
        Due.each("at(1, ..)", place -> x.at(1, place), 2, TideWords.NO_SUCH);
    }

    private static void fourGates() {
        Due.says("Gates", "There are 4 gates, 0 to 3,");
        TideWords x = new TideWords();
        Due.refused("gateOf(.., 1)", gate -> x.gateOf(gate, 1), 0, 3, TideWords.NO_SUCH);
        Due.each("gateOf(.., 1)", gate -> x.gateOf(gate, 1), 5, 5, 5, 5);
    }

    private static void gatesAtFirst() {
        TideWords x = new TideWords();
        Due.says("Gates", "each with a side, 0 or 1: the store from which words go to the other one (at first 0, 1, 0 and 1),");
        Due.each("gateOf(.., 0)", gate -> x.gateOf(gate, 0), 0, 1, 0, 1);
        Given.bring(x, 0, "a,b");
        Given.bring(x, 1, "c,d");
        x.run(1);
        Due.each("by their gates", word -> x.word(word, 5), 0, 2, 1, 3);
        Due.each("to the other store", word -> x.word(word, 0), 1, 1, 0, 0);
        Due.says("Gates", "a slack, 0 to 99 (5 at first),");
        Due.each("gateOf(.., 1)", gate -> x.gateOf(gate, 1), 5, 5, 5, 5);
        Due.says("Gates", "and a way, 0 or 1 (0 at first).");
        Due.each("gateOf(.., 2)", gate -> x.gateOf(gate, 2), 0, 0, 0, 0);
    }

    private static void gatesAtTheEnds() {
        TideWords x = new TideWords();
        for (int gate = 0; gate < 4; gate++) {
            int which = gate;
            x.gate(gate, 0, 0, 0);
            Due.each("the least", what -> x.gateOf(which, what), 0, 0, 0);
            x.gate(gate, 1, 99, 1);
            Due.each("the most", what -> x.gateOf(which, what), 1, 99, 1);
        }
    }

    private static int isOpen(int first, int second, int slack) {
        TideWords x = Given.levels(first, second);
        x.gate(2, 0, slack, 0);
        return x.gateOf(2, 4);
    }

    private static void slack() {
        Due.says("Gates", "A gate is open in the step t, if the told levels of both stores at t differ by its slack or less,");
        int[] slacks = {0, 1, 5, 98, 99};
        for (int slack : slacks) {
            Due.due("by the slack " + slack + " up", isOpen(100, 100 + slack, slack), 1);
            Due.due("by the slack " + slack + " down", isOpen(100 + slack, 100, slack), 1);
            Due.due("by more than " + slack + " up", isOpen(100, 101 + slack, slack), 0);
            Due.due("by more than " + slack + " down", isOpen(101 + slack, 100, slack), 0);
        }
        Due.due("as far as levels can be", isOpen(0, 300, 99), 0);
        TideWords x = Given.levels(100, 140);
        x.gauge(0, 20);
        x.gauge(1, -15);
        Due.due("the told levels count: 120 and 125", x.count(7), 15);
        x.gauge(1, -14);
        Due.due("the told levels count: 120 and 126", x.count(7), 0);
        TideWords far = Given.seldom(1769);
        Due.due("at the step 1769", far.gateOf(0, 4), 0);
        far.run(1);
        Due.due("at the step 1770", far.gateOf(0, 4), 1);
        far.run(1);
        Due.due("at the step 1771", far.gateOf(0, 4), 0);
    }

    private static void shutByHand() {
        Due.says("Gates", "and it is not shut by hand (none is at first).");
        TideWords x = Given.steady();
        Due.each("at first", gate -> x.gateOf(gate, 3), 0, 0, 0, 0);
        Due.each("open at first", gate -> x.gateOf(gate, 4), 1, 1, 1, 1);
        Due.each("shut(.., true)", gate -> x.shut(gate, true), 1, 2, 3, 4);
        Due.each("shut", gate -> x.gateOf(gate, 4), 0, 0, 0, 0);
        Due.each("shut(.., false)", gate -> x.shut(gate, false), 3, 2, 1, 0);
        Due.each("open again", gate -> x.gateOf(gate, 4), 1, 1, 1, 1);
    }

    private static void twelveWords() {
        Due.says("Words", "There are up to 12 words,");
        TideWords x = Given.twelve();
        Due.due("words", x.count(1), 12);
        Due.due("the last one", x.word(11, 7), 'l');
        x.write('m');
        Due.due("one more", x.put(0), TideWords.TOO_MANY);
        Due.refused("word(.., 0)", word -> x.word(word, 0), 0, 11, TideWords.NO_SUCH);
    }

    private static void numbersAreKept() {
        Due.says("Words", "with numbers from 0 in the order in which they came, which they keep.");
        TideWords x = Given.steady();
        x.gate(1, 0, 5, 0);
        x.gate(3, 0, 5, 0);
        Given.bring(x, 1, "cc,d");
        Given.bring(x, 0, "aaa,b");
        Due.each("the first letters", word -> x.word(word, 7), 'c', 'd', 'a', 'b', TideWords.NO_SUCH);
        x.run(9);
        Due.each("the other order in the row", place -> x.at(1, place), 0, 1, 3, 2);
        Due.each("the first letters", word -> x.word(word, 7), 'c', 'd', 'a', 'b', TideWords.NO_SUCH);
        Given.bring(x, 0, "e");
        Due.due("the next one", x.word(4, 7), 'e');
    }

    private static void lettersOfWords() {
        Due.says("Words", "A word has 1 to 6 letters a to z,");
        TideWords x = Given.steady();
        Given.bring(x, 0, "a,z,abcxyz");
        Due.each("letters", word -> x.word(word, 2), 1, 1, 6);
        Due.due("the first one", x.word(0, 7), 97);
        Due.due("the last one", x.word(1, 7), 122);
        Due.each("word(2, 7 ..)", place -> x.word(2, 7 + place), 'a', 'b', 'c', 'x', 'y', 'z', TideWords.NONE);
        Given.type(x, "abcdefg");
        Due.due("7 letters", x.put(0), TideWords.BAD_TEXT);
        x.wipe();
        Given.type(x, "a{");
        Due.due("behind z", x.put(0), TideWords.BAD_TEXT);
        x.wipe();
        Given.type(x, "a`");
        Due.due("ahead of a", x.put(0), TideWords.BAD_TEXT);
    }

    private static void placesOfWords() {
        Due.says("Words", "and is in the row of a store, or in a gate;");
        TideWords x = Given.steady();
        Given.bring(x, 0, "ab,cd,ef");
        x.run(1);
        Due.each("where", word -> x.word(word, 0), 2, 4, 0);
        Due.each("at which place", word -> x.word(word, 1), TideWords.NONE, TideWords.NONE, 0);
        Due.each("in rows", store -> x.store(store, 6), 1, 0);
        Due.due("in gates", x.count(4), 2);
        x.run(1);
        Due.each("where", word -> x.word(word, 0), 1, 1, 0);
        Due.each("at which place", word -> x.word(word, 1), 0, 1, 0);
    }

    private static void passedOrNot() {
        Due.says("Words", "it has passed, or not.");
        TideWords x = Given.steady();
        Given.bring(x, 0, "abc");
        Due.due("in its row", x.word(0, 3), 0);
        x.run(2);
        Due.due("in a gate", x.word(0, 3), 0);
        x.run(1);
        Due.due("in the other row", x.word(0, 3), 1);
    }

    private static void constants() {
        Due.says("Texts", "The constants: `NO_SUCH = -1001, BAD_VALUE = -1002, BAD_TEXT = -1003, TOO_MANY = -1004, NOT_POSSIBLE = -1005, NONE = -1006`: Error codes, and NONE: there is none.");
        Due.due("NO_SUCH", TideWords.NO_SUCH, -1001);
        Due.due("BAD_VALUE", TideWords.BAD_VALUE, -1002);
        Due.due("BAD_TEXT", TideWords.BAD_TEXT, -1003);
        Due.due("TOO_MANY", TideWords.TOO_MANY, -1004);
        Due.due("NOT_POSSIBLE", TideWords.NOT_POSSIBLE, -1005);
        Due.due("NONE", TideWords.NONE, -1006);
    }
}
