/** Promises 1 to 7: a new object, tide, gauge, gate, shut, put and run, and what a step does. */
public final class ChangesTest {
    public static void main(String[] args) {
        newObject();
        tide();
        tideErrors();
        gauge();
        gate();
        gateWithWord();
        shut();
        put();
        putErrors();
        run();
        runErrors();
        steps();
        wordsGoBack();
        goesBackAheadOfPassed();
        wordsStay();
        Due.finish();
    }

    private static void newObject() {
        TideWords x = new TideWords();
        int[] counts = {0, 0, 0, 0, 0, 0, 0, 15, 0, 0, 0};
        for (int what = 0; what < counts.length; what++) {
            Due.due("new: count(" + what + ")", x.count(what), counts[what]);
        }
        int[][] stores = {{100, 30, 24, 0, 70, 70, 0, 0, 0}, {100, 30, 20, 0, 70, 70, 0, 0, 0}};
        int[][] gates = {{0, 5, 0, 0, 1, TideWords.NONE, 0, 0, 0}, {1, 5, 0, 0, 1, TideWords.NONE, 0, 0, 0}};
        for (int what = 0; what < 9; what++) {
            for (int i = 0; i < 4; i++) {
                Due.due("new: gateOf(" + i + ", " + what + ")", x.gateOf(i, what), gates[i % 2][what]);
            }
            Due.due("new: store(0, " + what + ")", x.store(0, what), stores[0][what]);
            Due.due("new: store(1, " + what + ")", x.store(1, what), stores[1][what]);
        }
        Due.due("new: fault()", x.fault(), 0);
        Due.due("new: undo()", x.undo(), TideWords.NOT_POSSIBLE);
        Due.due("new: restore(0)", x.restore(0), TideWords.NOT_POSSIBLE);
        Due.due("new: restore(1)", x.restore(1), TideWords.NOT_POSSIBLE);
        Due.due("new: run(500)", x.run(500), 0);
    }

    private static void tide() {
        TideWords x = new TideWords();
        Due.due("tide(0, 300, 100, 60)", x.tide(0, 300, 100, 60), 200);
        Due.due("tide(1, 0, 0, 2)", x.tide(1, 0, 0, 2), 0);
        Due.due("tide(1, 0, 100, 2)", x.tide(1, 0, 100, 2), -100);
        Due.due("count(10)", x.count(10), 3);
        x.gauge(0, 50);
        x.run(1);
        Due.due("level at 1, period 2", x.tide(0, 50, 20, 2), 70);
        Due.due("told level at 1", x.store(0, 5), 120);
        Due.due("level at 1, period 3, 4 / 3 rounded down", x.tide(0, 100, 1, 3), 100);
        x.run(1);
        Due.due("level at 2, period 3", x.store(0, 4), 100);
        x.run(1);
        Due.due("level at 3, period 3", x.store(0, 4), 99);
        x.run(30);
        Due.due("level at 33, period 60: 27 from the end", x.tide(0, 100, 30, 60), 124);
        Due.due("mean", x.store(0, 0), 100);
        Due.due("swing", x.store(0, 1), 30);
        Due.due("period", x.store(0, 2), 60);
        Due.due("mean of the other store", x.store(1, 0), 0);
        Due.due("period of the other store", x.store(1, 2), 2);
    }

    private static void tideErrors() {
        TideWords x = new TideWords();
        int[][] bad = {{-1, 100, 24}, {301, 100, 24}, {100, -1, 24}, {100, 101, 24}, {100, 30, 1}, {100, 30, 61}, {100, 30, 0}, {100, 30, -24}};
        for (int[] b : bad) {
            Due.due("tide(0, " + b[0] + ", " + b[1] + ", " + b[2] + ")", x.tide(0, b[0], b[1], b[2]), TideWords.BAD_VALUE);
            Due.due("tide(2, ..)", x.tide(2, b[0], b[1], b[2]), TideWords.NO_SUCH);
            Due.due("tide(-1, ..)", x.tide(-1, b[0], b[1], b[2]), TideWords.NO_SUCH);
        }
        Due.due("mean after errors", x.store(0, 0), 100);
        Due.due("swing after errors", x.store(0, 1), 30);
        Due.due("period after errors", x.store(0, 2), 24);
        Due.due("history after errors", x.count(10), 0);
    }

    private static void gauge() {
        TideWords x = new TideWords();
        Due.due("gauge(0, 50)", x.gauge(0, 50), 0);
        Due.due("gauge(0, -50)", x.gauge(0, -50), 50);
        Due.due("gauge(1, 7)", x.gauge(1, 7), 0);
        Due.due("lie of 0", x.store(0, 3), -50);
        Due.due("lie of 1", x.store(1, 3), 7);
        Due.due("level of 0", x.store(0, 4), 70);
        Due.due("told level of 0", x.store(0, 5), 20);
        Due.due("told level of 1", x.store(1, 5), 77);
        Due.due("gauge(0, 51)", x.gauge(0, 51), TideWords.BAD_VALUE);
        Due.due("gauge(0, -51)", x.gauge(0, -51), TideWords.BAD_VALUE);
        Due.due("gauge(2, 51)", x.gauge(2, 51), TideWords.NO_SUCH);
        Due.due("gauge(-1, 0)", x.gauge(-1, 0), TideWords.NO_SUCH);
        Due.due("lie after errors", x.store(0, 3), -50);
        Due.due("history after errors", x.count(10), 3);
    }

    private static void gate() {
        TideWords x = new TideWords();
        Due.due("gate(3, 0, 99, 1)", x.gate(3, 0, 99, 1), 5);
        Due.due("gate(3, 1, 0, 0)", x.gate(3, 1, 0, 0), 99);
        Due.due("gate(0, 1, 7, 1)", x.gate(0, 1, 7, 1), 5);
        Due.due("side", x.gateOf(0, 0), 1);
        Due.due("slack", x.gateOf(0, 1), 7);
        Due.due("way", x.gateOf(0, 2), 1);
        Due.due("side of 3", x.gateOf(3, 0), 1);
        Due.due("slack of 3", x.gateOf(3, 1), 0);
        Due.due("way of 3", x.gateOf(3, 2), 0);
        int[][] bad = {{-1, 5, 0}, {2, 5, 0}, {0, -1, 0}, {0, 100, 0}, {0, 5, -1}, {0, 5, 2}};
        for (int[] b : bad) {
            Due.due("gate(0, " + b[0] + ", " + b[1] + ", " + b[2] + ")", x.gate(0, b[0], b[1], b[2]), TideWords.BAD_VALUE);
            Due.due("gate(4, ..)", x.gate(4, b[0], b[1], b[2]), TideWords.NO_SUCH);
            Due.due("gate(-1, ..)", x.gate(-1, b[0], b[1], b[2]), TideWords.NO_SUCH);
        }
        Due.due("slack after errors", x.gateOf(0, 1), 7);
        Due.due("history after errors", x.count(10), 3);
    }

    private static void gateWithWord() {
        TideWords x = Given.steady();
        Given.bring(x, 0, "abc");
        x.run(1);
        Due.due("the word is in the gate 0", x.gateOf(0, 5), 0);
        Due.due("gate(0, 1, 5, 0)", x.gate(0, 1, 5, 0), TideWords.NOT_POSSIBLE);
        Due.due("gate(0, 1, 100, 0)", x.gate(0, 1, 100, 0), TideWords.BAD_VALUE);
        Due.due("gate(0, 0, 9, 1)", x.gate(0, 0, 9, 1), 5);
        Due.due("the gate 2 has no word: gate(2, 1, 8, 0)", x.gate(2, 1, 8, 0), 5);
        x.run(2);
        Due.due("once it has none: gate(0, 1, 3, 0)", x.gate(0, 1, 3, 0), 9);
    }

    private static void shut() {
        TideWords x = new TideWords();
        Due.due("shut(2, true)", x.shut(2, true), 1);
        Due.due("shut(3, true)", x.shut(3, true), 2);
        Due.due("shut(3, true) again", x.shut(3, true), TideWords.NOT_POSSIBLE);
        Due.due("shut(0, false)", x.shut(0, false), TideWords.NOT_POSSIBLE);
        Due.due("shut(4, true)", x.shut(4, true), TideWords.NO_SUCH);
        Due.due("shut(-1, false)", x.shut(-1, false), TideWords.NO_SUCH);
        Due.due("open ones", x.count(7), 3);
        Due.due("is shut", x.gateOf(2, 3), 1);
        Due.due("is open", x.gateOf(2, 4), 0);
        Due.due("shut(2, false)", x.shut(2, false), 1);
        Due.due("is shut no more", x.gateOf(2, 3), 0);
        Due.due("history", x.count(10), 3);
    }

    private static void put() {
        TideWords x = new TideWords();
        Due.due("put abcdef,g", Given.bring(x, 1, "abcdef,g"), 2);
        Due.due("the pad is empty", x.count(9), 0);
        Due.due("put(1) of an empty pad", x.put(1), TideWords.BAD_TEXT);
        Due.due("put z", Given.bring(x, 0, "z"), 3);
        Due.due("put hi", Given.bring(x, 1, "hi"), 4);
        int[] row = {0, 1, 3};
        for (int place = 0; place < row.length; place++) {
            Due.due("at(1, " + place + ")", x.at(1, place), row[place]);
        }
        Due.due("at(1, 3)", x.at(1, 3), TideWords.NO_SUCH);
        Due.due("at(0, 0)", x.at(0, 0), 2);
        Due.due("not passed", x.word(3, 3), 0);
        Due.due("none has passed", x.count(2), 0);
        Due.due("none has passed in both rows", x.count(3), 4);
        Due.due("history", x.count(10), 3);
    }

    private static void putErrors() {
        TideWords x = new TideWords();
        Given.bring(x, 0, "a,b,c,d,e,f,g,h,i,j");
        Given.type(x, "k,l,m");
        Due.due("13 words", x.put(0), TideWords.TOO_MANY);
        Due.due("the pad is kept", x.count(9), 5);
        Due.due("no store, too many", x.put(2), TideWords.NO_SUCH);
        Due.due("no store, too many", x.put(-1), TideWords.NO_SUCH);
        Given.type(x, ",");
        Due.due("a fault, and too many", x.put(0), TideWords.BAD_TEXT);
        Due.due("words", x.count(1), 10);
        Due.due("history", x.count(10), 1);
        Due.due("12 words", Given.bring(x, 1, "k,l"), 12);
        Due.due("one more", Given.bring(x, 1, "m"), TideWords.TOO_MANY);
        Due.due("at(1, 1)", x.at(1, 1), 11);
    }

    private static void run() {
        TideWords x = Given.steady();
        Given.bring(x, 0, "a,b,cc");
        Due.due("run(1)", x.run(1), 2);
        Due.due("run(1)", x.run(1), 0);
        Due.due("run(1)", x.run(1), 1);
        Due.due("run(500)", x.run(500), 0);
        Due.due("steps", x.count(0), 503);
    }

    private static void runErrors() {
        TideWords x = new TideWords();
        Due.due("run(0)", x.run(0), TideWords.BAD_VALUE);
        Due.due("run(-1)", x.run(-1), TideWords.BAD_VALUE);
        Due.due("run(501)", x.run(501), TideWords.BAD_VALUE);
        Due.due("history", x.count(10), 0);
        for (int i = 0; i < 199; i++) {
            x.run(500);
        }
        Due.due("steps", x.count(0), 99500);
        Due.due("run(500)", x.run(500), TideWords.TOO_MANY);
        Due.due("run(501)", x.run(501), TideWords.BAD_VALUE);
        Due.due("run(499)", x.run(499), 0);
        Due.due("steps", x.count(0), 99999);
        Due.due("run(1)", x.run(1), TideWords.TOO_MANY);
        Due.due("ifRun(1000, 0)", x.ifRun(1000, 0), 0);
        Due.due("level at 99999: 15 of 24", x.store(0, 4), 115);
    }

    private static void steps() {
        TideWords x = Given.steady();
        Given.bring(x, 0, "abc,de");
        Given.bring(x, 1, "f");
        Due.due("step 0", x.run(1), 1);
        Due.due("gate 0 holds", x.gateOf(0, 5), 0);
        Due.due("gate 1 passed f", x.gateOf(1, 7), 1);
        Due.due("gate 2 holds", x.gateOf(2, 5), 1);
        Due.due("gate 3 does not take what has passed", x.gateOf(3, 5), TideWords.NONE);
        Due.due("f is in the row 0", x.at(0, 0), 2);
        Due.due("letters", x.count(5), 3);
        Due.due("step 1", x.run(1), 1);
        Due.due("step 2", x.run(1), 1);
        Due.due("de came first", x.at(1, 0), 1);
        Due.due("abc came then", x.at(1, 1), 0);
        int[][] stepsAndGates = {{2, 0}, {1, 2}, {0, 1}};
        for (int word = 0; word < 3; word++) {
            Due.due("step of " + word, x.word(word, 4), stepsAndGates[word][0]);
            Due.due("gate of " + word, x.word(word, 5), stepsAndGates[word][1]);
            Due.due("passed " + word, x.word(word, 3), 1);
        }
        Due.due("words do not come back", x.run(500), 0);
        Due.due("letters", x.count(5), 6);
        Due.due("vain ones", x.count(6), 0);
    }

    private static void wordsGoBack() {
        TideWords x = Given.steady();
        Given.bring(x, 0, "abc,def,g");
        x.shut(2, true);
        x.run(2);
        x.shut(2, false);
        x.run(1);
        Due.due("abc has passed", x.word(0, 3), 1);
        Due.due("def is in the gate 2", x.word(1, 0), 4);
        x.run(1);
        Due.due("g has passed by the gate 0", x.word(2, 5), 0);
        x.shut(2, true);
        x.run(1);
        Due.due("def is in the gate 0, back from 2 in the same step, which acts later", x.word(1, 0), 0);
        Due.due("two letters in vain", x.gateOf(2, 8), 2);
        x.run(1);
        Due.due("the gate 0 takes it up from the first letter", x.gateOf(0, 6), 1);
        x.shut(0, true);
        x.shut(2, false);
        x.run(1);
        Due.due("back from 0, and taken by 2 in the same step", x.gateOf(2, 5), 1);
        Due.due("with one letter", x.gateOf(2, 6), 1);
        Due.due("back twice", x.word(1, 6), 2);
        Due.due("vain in 0", x.gateOf(0, 8), 1);
        Due.due("vain in all", x.count(6), 3);
        Due.due("gate 0 is empty", x.gateOf(0, 6), 0);
        Due.due("passed in 0", x.gateOf(0, 7), 2);
    }

    private static void goesBackAheadOfPassed() {
        TideWords x = Given.steady();
        Given.bring(x, 1, "z");
        x.run(1);
        Given.bring(x, 0, "abc,def,ghi");
        x.run(1);
        x.shut(0, true);
        x.shut(2, true);
        x.run(1);
        int[] row = {2, 1, 0, 3};
        for (int place = 0; place < row.length; place++) {
            Due.due("at(0, " + place + ")", x.at(0, place), row[place]);
            Due.due("place of " + row[place], x.word(row[place], 1), place);
        }
        Due.due("the gates 1 and 3 are still open", x.count(7), 10);
        Due.due("steps without an open gate", x.count(8), 0);
    }

    private static void wordsStay() {
        TideWords x = Given.steady();
        x.gate(0, 0, 0, 1);
        Given.bring(x, 0, "abc");
        x.run(2);
        x.gauge(1, 9);
        Due.due("closed, with the word", x.run(10), 0);
        Due.due("letters so far", x.gateOf(0, 6), 2);
        Due.due("steps without an open gate", x.count(8), 10);
        Due.due("where", x.word(0, 0), 2);
        Due.due("place", x.word(0, 1), TideWords.NONE);
        Due.due("not back", x.word(0, 6), 0);
        x.gauge(0, 9);
        Due.due("open again", x.run(1), 1);
        Due.due("letters", x.count(5), 3);
        Due.due("vain ones", x.count(6), 0);
        Due.due("step", x.word(0, 4), 12);
    }
}
