/** Promises 8 to 12: store, gateOf, word, at and count. */
public final class AnswersTest {
    public static void main(String[] args) {
        TideWords x = Given.busy();
        store(x);
        gateOf(x);
        word(x);
        at(x);
        count(x);
        Due.due("nothing has changed: history", x.count(10), 6);
        constants();
        Due.finish();
    }

    private static void store(TideWords x) {
        Due.each("store(0, ..)", what -> x.store(0, what), 104, 0, 9, 20, 104, 124, 3, 7, 1);
        Due.each("store(1, ..)", what -> x.store(1, what), 100, 0, 7, -1, 100, 99, 0, 0, 0);
        Due.due("store(0, 9)", x.store(0, 9), TideWords.BAD_VALUE);
        Due.due("store(0, -1)", x.store(0, -1), TideWords.BAD_VALUE);
        Due.due("store(2, 9)", x.store(2, 9), TideWords.NO_SUCH);
        Due.due("store(-1, 0)", x.store(-1, 0), TideWords.NO_SUCH);
    }

    private static void gateOf(TideWords x) {
        Due.each("gateOf(0, ..)", what -> x.gateOf(0, what), 0, 5, 0, 0, 0, TideWords.NONE, 0, 0, 2);
        Due.each("gateOf(1, ..)", what -> x.gateOf(1, what), 1, 5, 0, 0, 0, TideWords.NONE, 0, 1, 0);
        Due.each("gateOf(2, ..)", what -> x.gateOf(2, what), 0, 30, 1, 0, 1, 1, 5, 0, 0);
        Due.each("gateOf(3, ..)", what -> x.gateOf(3, what), 1, 5, 0, 0, 0, TideWords.NONE, 0, 1, 0);
        Due.due("gateOf(0, 9)", x.gateOf(0, 9), TideWords.BAD_VALUE);
        Due.due("gateOf(0, -1)", x.gateOf(0, -1), TideWords.BAD_VALUE);
        Due.due("gateOf(4, 9)", x.gateOf(4, 9), TideWords.NO_SUCH);
        Due.due("gateOf(-1, 0)", x.gateOf(-1, 0), TideWords.NO_SUCH);
    }

    private static void word(TideWords x) {
        Due.each("word(0, ..)", what -> x.word(0, what), 0, 0, 4, 0, TideWords.NONE, TideWords.NONE, 1, 'a', 'b', 'c', 'd', TideWords.NONE);
        Due.each("word(1, ..)", what -> x.word(1, what), 4, TideWords.NONE, 6, 0, TideWords.NONE, TideWords.NONE, 0, 'e', 'f', 'g', 'h', 'i', 'j', TideWords.NONE);
        Due.each("word(2, ..)", what -> x.word(2, what), 0, 2, 2, 1, 1, 1, 0, 'k', 'l', TideWords.NONE);
        Due.each("word(3, ..)", what -> x.word(3, what), 0, 1, 1, 1, 0, 3, 0, 'm', TideWords.NONE);
        Due.due("word(3, MAX)", x.word(3, Integer.MAX_VALUE), TideWords.NONE);
        Due.due("word(3, -1)", x.word(3, -1), TideWords.BAD_VALUE);
        Due.due("word(3, MIN)", x.word(3, Integer.MIN_VALUE), TideWords.BAD_VALUE);
        Due.due("word(4, -1)", x.word(4, -1), TideWords.NO_SUCH);
        Due.due("word(-1, 0)", x.word(-1, 0), TideWords.NO_SUCH);
        Due.due("word(12, 0)", x.word(12, 0), TideWords.NO_SUCH);
    }

    private static void at(TideWords x) {
        Due.each("at(0, ..)", place -> x.at(0, place), 0, 3, 2);
        Due.due("at(1, 0)", x.at(1, 0), TideWords.NO_SUCH);
        Due.due("at(0, 3)", x.at(0, 3), TideWords.NO_SUCH);
        Due.due("at(0, -1)", x.at(0, -1), TideWords.NO_SUCH);
        Due.due("at(1, 1)", x.at(1, 1), TideWords.NO_SUCH);
        Due.due("at(2, 0)", x.at(2, 0), TideWords.NO_SUCH);
        Due.due("at(-1, 0)", x.at(-1, 0), TideWords.NO_SUCH);
        Due.due("at(0, MAX)", x.at(0, Integer.MAX_VALUE), TideWords.NO_SUCH);
    }

    private static void count(TideWords x) {
        Due.each("count", x::count, 5, 4, 2, 1, 1, 10, 2, 4, 0, 2, 6);
        Due.due("count(11)", x.count(11), TideWords.BAD_VALUE);
        Due.due("count(-1)", x.count(-1), TideWords.BAD_VALUE);
    }

    private static void constants() {
        Due.due("NO_SUCH", TideWords.NO_SUCH, -1001);
        Due.due("BAD_VALUE", TideWords.BAD_VALUE, -1002);
        Due.due("BAD_TEXT", TideWords.BAD_TEXT, -1003);
        Due.due("TOO_MANY", TideWords.TOO_MANY, -1004);
        Due.due("NOT_POSSIBLE", TideWords.NOT_POSSIBLE, -1005);
        Due.due("NONE", TideWords.NONE, -1006);
    }
}
