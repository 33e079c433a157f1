/** The edges of the promises 8 to 12. */
final class LookEdges {
    private LookEdges() {
    }

    static void all() {
        nothingChanges();
        storeTide();
        storeLevels();
        storeRow();
        storeErrors();
        gateItself();
        gateIsOpen();
        gateWord();
        gateCounts();
        gateErrors();
        wordPlace();
        wordPassed();
        wordBack();
        wordLetters();
        wordErrors();
        at();
        countWords();
        countLetters();
        countOpen();
        countIdle();
        countPad();
        countHistory();
        countErrors();
    }

    private static void nothingChanges() {
        Due.says("Texts", "Ahead of the calls `store`, `gateOf`, `word`, `at`, `count` the interface says: ---- what there is; nothing changes.");
        for (int what = -1; what <= 12; what++) {
            int which = what;
            Twins.same("store(1, " + what + ")", Given::busy, x -> x.store(1, which));
            Twins.same("gateOf(2, " + what + ")", Given::busy, x -> x.gateOf(2, which));
            Twins.same("word(1, " + what + ")", Given::busy, x -> x.word(1, which));
            Twins.same("at(0, " + what + ")", Given::busy, x -> x.at(0, which));
            Twins.same("count(" + what + ")", Given::busy, x -> x.count(which));
        }
    }

    private static void storeTide() {
        Due.says("Promise 8", "Returns something about a store.", "`what`: 0 its mean, 1 its swing, 2 its period, 3 its lie,");
        TideWords x = new TideWords();
        x.tide(0, 300, 0, 2);
        x.tide(1, 0, 100, 60);
        x.gauge(0, -50);
        x.gauge(1, 50);
        Due.each("store(0, ..)", what -> x.store(0, what), 300, 0, 2, -50);
        Due.each("store(1, ..)", what -> x.store(1, what), 0, 100, 60, 50);
    }

    private static void storeLevels() {
        TideWords x = new TideWords();
        x.gauge(1, -3);
        Due.says("Promise 8", "4 its level now,");
        Due.each("at the step 0", store -> x.store(store, 4), 70, 70);
        x.run(20);
        Due.each("at the step 20, the period of 1", store -> x.store(store, 4), 90, 70);
        x.run(4);
        Due.each("at the step 24, the period of 0", store -> x.store(store, 4), 70, 94);
        Due.says("Promise 8", "5 its told level now,");
        Due.each("at the step 24", store -> x.store(store, 5), 70, 91);
    }

    private static void storeRow() {
        TideWords x = Given.steady();
        Due.says("Promise 8", "6 words in its row, how many,");
        Due.due("none", x.store(0, 6), 0);
        Given.bring(x, 0, "a,bc,defghi");
        Due.due("those that wait", x.store(0, 6), 3);
        x.run(1);
        Due.each("not those in gates", store -> x.store(store, 6), 1, 1);
        Due.says("Promise 8", "7 letters of these, together,");
        Due.each("letters", store -> x.store(store, 7), 6, 1);
        Due.says("Promise 8", "8 words in its row that have not passed");
        Due.each("those that have not passed", store -> x.store(store, 8), 1, 0);
        x.run(500);
        Due.each("all in the row 1", store -> x.store(store, 6), 0, 3);
        Due.each("their letters", store -> x.store(store, 7), 0, 9);
        Due.each("all have passed", store -> x.store(store, 8), 0, 0);
        TideWords y = Given.twelve();
        Due.each("12 words", what -> y.store(0, 6 + what), 12, 12, 12);
    }

    private static void storeErrors() {
        TideWords x = Given.busy();
        Due.says("Promise 8", "Returns the number; NO_SUCH if there is no such store;");
        Due.refused("store(.., 6)", store -> x.store(store, 6), 0, 1, TideWords.NO_SUCH);
        Due.says("Promise 8", "BAD_VALUE if what is out of range.");
        Due.refused("store(1, ..)", what -> x.store(1, what), 0, 8, TideWords.BAD_VALUE);
    }

    private static void gateItself() {
        Due.says("Promise 9", "Returns something about a gate.", "`what`: 0 its side, 1 its slack, 2 its way, 3 whether it is shut by hand (1 or 0),");
        TideWords x = new TideWords();
        x.gate(0, 1, 99, 1);
        x.shut(0, true);
        x.gate(3, 0, 0, 0);
        Due.each("gateOf(0, ..)", what -> x.gateOf(0, what), 1, 99, 1, 1);
        Due.each("gateOf(3, ..)", what -> x.gateOf(3, what), 0, 0, 0, 0);
    }

    private static void gateIsOpen() {
        Due.says("Promise 9", "4 whether it is open now,");
        TideWords x = Given.levels(100, 110);
        x.gate(1, 1, 10, 0);
        x.gate(2, 0, 9, 0);
        x.gate(3, 1, 11, 0);
        Due.each("open", gate -> x.gateOf(gate, 4), 0, 1, 0, 1);
        x.shut(3, true);
        Due.each("one is shut", gate -> x.gateOf(gate, 4), 0, 1, 0, 0);
        Due.due("one that is not open is not shut by hand", x.gateOf(0, 3), 0);
    }

    private static void gateWord() {
        TideWords x = Given.steady();
        Given.bring(x, 0, "abcdef");
        Due.says("Promise 9", "5 the word in it (NONE),");
        Due.due("the word waits", x.gateOf(0, 5), TideWords.NONE);
        Due.says("Promise 9", "6 letters of that word that were passed (0 without one),");
        Due.due("the word waits", x.gateOf(0, 6), 0);
        x.run(5);
        Due.due("the word 0", x.gateOf(0, 5), 0);
        Due.due("five letters", x.gateOf(0, 6), 5);
        x.run(1);
        Due.due("it has passed", x.gateOf(0, 5), TideWords.NONE);
        Due.due("no letters", x.gateOf(0, 6), 0);
        TideWords y = Given.twelve();
        y.run(5);
        y.undo();
        y.run(6);
        Due.due("none of 12", y.gateOf(2, 5), TideWords.NONE);
    }

    private static void gateCounts() {
        TideWords x = Given.steady();
        Due.says("Promise 9", "7 words that passed through it so far,");
        Due.due("none", x.gateOf(0, 7), 0);
        x.shut(2, true);
        Given.bring(x, 0, "a,bb,ccc");
        x.run(3);
        Due.due("two", x.gateOf(0, 7), 2);
        x.run(1);
        Due.due("one that is in it does not count", x.gateOf(0, 7), 2);
        Due.says("Promise 9", "8 letters that were passed in it in vain so far");
        Due.due("none", x.gateOf(0, 8), 0);
        x.shut(0, true);
        x.run(1);
        Due.due("one", x.gateOf(0, 8), 1);
        x.shut(0, false);
        x.run(2);
        Due.due("two letters of the next try are not vain yet", x.gateOf(0, 8), 1);
        x.shut(0, true);
        x.run(1);
        Due.due("now they are, and the first one still", x.gateOf(0, 8), 3);
        Due.due("not in another gate", x.gateOf(2, 8), 0);
        Due.due("words that go back have not passed", x.gateOf(0, 7), 2);
    }

    private static void gateErrors() {
        TideWords x = Given.busy();
        Due.says("Promise 9", "Returns the number; NO_SUCH if there is no such gate;");
        Due.refused("gateOf(.., 7)", gate -> x.gateOf(gate, 7), 0, 3, TideWords.NO_SUCH);
        Due.says("Promise 9", "BAD_VALUE if what is out of range.");
        Due.refused("gateOf(3, ..)", what -> x.gateOf(3, what), 0, 8, TideWords.BAD_VALUE);
    }

    private static void wordPlace() {
        Due.says("Promise 10", "Returns something about a word.", "`what`: 0 where it is: the store in whose row it is, or 2 and the gate, together,");
        TideWords x = Given.steady();
        x.gate(1, 0, 5, 0);
        x.gate(3, 0, 5, 0);
        Given.bring(x, 0, "aa,bb,cc,dd,ee,ff");
        x.run(1);
        Due.each("in the four gates, and in the row 0", word -> x.word(word, 0), 2, 3, 4, 5, 0, 0);
        Due.says("Promise 10", "1 its place in the row (NONE in a gate),");
        Due.each("places", word -> x.word(word, 1), TideWords.NONE, TideWords.NONE, TideWords.NONE, TideWords.NONE, 0, 1);
        x.run(1);
        Due.each("in the row 1, and in the row 0", word -> x.word(word, 0), 1, 1, 1, 1, 0, 0);
        Due.each("places", word -> x.word(word, 1), 0, 1, 2, 3, 0, 1);
        TideWords y = Given.twelve();
        Due.due("the last place", y.word(11, 1), 11);
        y.run(6);
        Due.due("the last place of the other row", y.word(11, 1), 11);
        Due.due("the other row", y.word(11, 0), 1);
    }

    private static void wordPassed() {
        TideWords x = Given.steady();
        Given.bring(x, 0, "abc,d,efghij");
        Due.says("Promise 10", "2 how many letters it has,");
        Due.each("letters", word -> x.word(word, 2), 3, 1, 6);
        x.run(2);
        Due.says("Promise 10", "3 whether it has passed (1 or 0),");
        Due.each("has passed", word -> x.word(word, 3), 0, 1, 0);
        Due.says("Promise 10", "4 the step in which its last letter passed (NONE),");
        Due.each("the step", word -> x.word(word, 4), TideWords.NONE, 0, TideWords.NONE);
        Due.says("Promise 10", "5 the gate through which it passed (NONE),");
        Due.each("the gate", word -> x.word(word, 5), TideWords.NONE, 2, TideWords.NONE);
        x.run(500);
        Due.each("have passed", word -> x.word(word, 3), 1, 1, 1);
        Due.each("the step", word -> x.word(word, 4), 2, 0, 6);
        Due.each("the gate", word -> x.word(word, 5), 0, 2, 2);
        TideWords late = Given.steady();
        Given.run(late, 99998);
        Given.bring(late, 1, "z");
        late.run(1);
        Due.due("the last step that there is", late.word(0, 4), 99998);
    }

    private static void wordBack() {
        Due.says("Promise 10", "6 how often it went back,");
        TideWords x = Given.steady();
        x.shut(2, true);
        Given.bring(x, 0, "ab,c");
        for (int times = 0; times < 3; times++) {
            Due.each("times", word -> x.word(word, 6), times, 0);
            x.shut(0, false);
            x.run(1);
            x.shut(0, true);
            x.run(1);
        }
        Due.each("times", word -> x.word(word, 6), 3, 0);
    }

    private static void wordLetters() {
        Due.says("Promise 10", "7 and more the codes of its letters");
        TideWords x = new TideWords();
        Given.bring(x, 0, "azbycx,q,abcdef");
        Due.each("word(0, 7 ..)", place -> x.word(0, 7 + place), 97, 122, 98, 121, 99, 120, TideWords.NONE);
        Due.each("word(1, 7 ..)", place -> x.word(1, 7 + place), 113, TideWords.NONE);
        Due.says("Promise 10", "NONE also if it has not so many letters.");
        int[] beyond = {8, 9, 12, 13, 14, 100, 263, 65543, Integer.MAX_VALUE - 1, Integer.MAX_VALUE};
        for (int what : beyond) {
            Due.due("word(1, " + what + ")", x.word(1, what), TideWords.NONE);
        }
    }

    private static void wordErrors() {
        TideWords x = Given.busy();
        Due.says("Promise 10", "Returns the number; NO_SUCH if there is no such word;");
        Due.refused("word(.., 2)", word -> x.word(word, 2), 0, 3, TideWords.NO_SUCH);
        TideWords none = new TideWords();
        Due.due("word(0, 2) without words", none.word(0, 2), TideWords.NO_SUCH);
        Due.says("Promise 10", "BAD_VALUE if what is below 0;");
        int[] below = {-1, -2, -7, -256, Integer.MIN_VALUE, Integer.MIN_VALUE + 6, Integer.MIN_VALUE + 7};
        for (int what : below) {
            Due.due("word(3, " + what + ")", x.word(3, what), TideWords.BAD_VALUE);
        }
    }

    private static void at() {
        Due.says("Promise 11", "Returns the word at a place of the row of a store.");
        TideWords x = Given.twelve();
        x.run(2);
        Due.each("the row 1", place -> x.at(1, place), 0, 1, 2, 3, TideWords.NO_SUCH);
        Due.each("the row 0", place -> x.at(0, place), 4, 5, 6, 7, 8, 9, 10, 11, TideWords.NO_SUCH);
        Due.says("Promise 11", "Returns its number; NO_SUCH if there is no such store or place.");
        Due.refused("at(.., 0)", store -> x.at(store, 0), 0, 1, TideWords.NO_SUCH);
        Due.refused("at(0, ..)", place -> x.at(0, place), 0, 7, TideWords.NO_SUCH);
        Due.refused("at(1, ..)", place -> x.at(1, place), 0, 3, TideWords.NO_SUCH);
        x.run(4);
        Due.due("a row that became empty", x.at(0, 0), TideWords.NO_SUCH);
        Due.due("the last place of a full one", x.at(1, 11), 11);
        Due.due("behind it", x.at(1, 12), TideWords.NO_SUCH);
        Due.due("the row 0 of a new object", new TideWords().at(0, 0), TideWords.NO_SUCH);
    }

    private static void countWords() {
        Due.says("Promise 12", "Returns a number.", "`what`: 0 the steps, 1 words, 2 those that have passed, 3 those in rows that have not, 4 those in gates,");
        TideWords x = Given.steady();
        Given.bring(x, 0, "a,bb,c,d");
        Given.bring(x, 1, "e,ff");
        Due.each("count", x::count, 0, 6, 0, 6, 0);
        x.run(1);
        Due.each("count", x::count, 1, 6, 2, 2, 2);
        x.run(1);
        Due.each("count", x::count, 2, 6, 5, 1, 0);
        x.run(500);
        Due.each("count", x::count, 502, 6, 6, 0, 0);
    }

    private static void countLetters() {
        TideWords x = Given.steady();
        Given.bring(x, 0, "abc");
        Given.bring(x, 1, "defg");
        x.run(2);
        Due.says("Promise 12", "5 letters that were passed so far, vain ones too,");
        Due.due("those of words in gates too", x.count(5), 4);
        Due.says("Promise 12", "6 vain ones so far,");
        Due.due("none yet", x.count(6), 0);
        x.gauge(0, 50);
        x.run(1);
        Due.due("letters", x.count(5), 4);
        Due.due("all in vain, of both gates", x.count(6), 4);
        x.gauge(0, 0);
        x.run(500);
        Due.due("letters", x.count(5), 11);
        Due.due("vain ones are kept", x.count(6), 4);
    }

    private static void countOpen() {
        Due.says("Promise 12", "7 gates that are open now, as a bit mask,");
        TideWords x = Given.steady();
        Due.due("all", x.count(7), 15);
        Due.each("shut", gate -> {
            x.shut(gate, true);
            return x.count(7);
        }, 14, 12, 8, 0);
        x.shut(0, false);
        Due.due("the gate 0", x.count(7), 1);
        x.shut(0, true);
        x.shut(1, false);
        Due.due("the gate 1", x.count(7), 2);
        TideWords y = Given.levels(100, 106);
        Due.due("none", y.count(7), 0);
        y.gate(2, 0, 6, 0);
        Due.due("by its slack", y.count(7), 4);
    }

    private static void countIdle() {
        Due.says("Promise 12", "8 steps so far in which no gate was open,");
        TideWords x = Given.levels(100, 106);
        Due.due("no step yet", x.count(8), 0);
        x.run(3);
        Due.due("three", x.count(8), 3);
        x.gate(3, 1, 6, 0);
        x.run(4);
        Due.due("one gate is open", x.count(8), 3);
        x.shut(3, true);
        x.run(500);
        Due.due("it is shut by hand", x.count(8), 503);
        TideWords y = Given.seldom(1772);
        Due.due("all but the step 1770", y.count(8), 1771);
    }

    private static void countPad() {
        Due.says("Promise 12", "9 the length of the pad,");
        TideWords x = new TideWords();
        Due.due("empty", x.count(9), 0);
        x.write('?');
        Due.due("one, though it is a fault", x.count(9), 1);
        for (int i = 0; i < 7; i++) {
            x.write(Given.packed("abcdefgh"));
        }
        x.write(Given.packed("ijk"));
        Due.due("full", x.count(9), 60);
        Due.due("wiped", x.wipe(), 60);
        Due.due("empty again", x.count(9), 0);
    }

    private static void countHistory() {
        Due.says("Promise 12", "10 how many changes can be undone");
        TideWords x = new TideWords();
        for (int changes = 0; changes <= 9; changes++) {
            Due.due("changes", x.count(10), Math.min(changes, 6));
            x.run(1);
        }
        for (int left = 5; left >= 0; left--) {
            x.undo();
            Due.due("left", x.count(10), left);
        }
    }

    private static void countErrors() {
        Due.says("Promise 12", "Returns the number; BAD_VALUE if what is out of range.");
        TideWords x = Given.busy();
        Due.refused("count", x::count, 0, 10, TideWords.BAD_VALUE);
    }
}
