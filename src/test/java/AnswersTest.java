/** Promises 8 to 12: store, gateOf, word, at and count. */
public final class AnswersTest {
    public static void main(String[] args) {
        TideWords x = busy();
        store(x);
        gateOf(x);
        word(x);
        at(x);
        count(x);
        Due.due("nothing has changed: history", x.count(10), 6);
        constants();
        Due.finish();
    }

    /** Two words have passed, one is in a gate, one is back in its row, and the pad has two characters. */
    private static TideWords busy() {
        TideWords x = new TideWords();
        x.tide(0, 104, 0, 9);
        x.tide(1, 100, 0, 7);
        x.gauge(1, -1);
        x.gate(2, 0, 30, 1);
        Due.bring(x, 0, "abcd,efghij");
        Due.bring(x, 1, "kl,m");
        x.run(2);
        x.gauge(0, 20);
        x.run(3);
        Due.type(x, "q,");
        return x;
    }

    private static void each(TideWords x, String name, int which, int[] want) {
        for (int what = 0; what < want.length; what++) {
            long got = name.equals("store") ? x.store(which, what) : name.equals("gateOf") ? x.gateOf(which, what) : x.word(which, what);
            Due.due(name + "(" + which + ", " + what + ")", got, want[what]);
        }
    }

    private static void store(TideWords x) {
        each(x, "store", 0, new int[] {104, 0, 9, 20, 104, 124, 3, 7, 1});
        each(x, "store", 1, new int[] {100, 0, 7, -1, 100, 99, 0, 0, 0});
        Due.due("store(0, 9)", x.store(0, 9), TideWords.BAD_VALUE);
        Due.due("store(0, -1)", x.store(0, -1), TideWords.BAD_VALUE);
        Due.due("store(2, 9)", x.store(2, 9), TideWords.NO_SUCH);
        Due.due("store(-1, 0)", x.store(-1, 0), TideWords.NO_SUCH);
    }

    private static void gateOf(TideWords x) {
        each(x, "gateOf", 0, new int[] {0, 5, 0, 0, 0, TideWords.NONE, 0, 0, 2});
        each(x, "gateOf", 1, new int[] {1, 5, 0, 0, 0, TideWords.NONE, 0, 1, 0});
        each(x, "gateOf", 2, new int[] {0, 30, 1, 0, 1, 1, 5, 0, 0});
        each(x, "gateOf", 3, new int[] {1, 5, 0, 0, 0, TideWords.NONE, 0, 1, 0});
        Due.due("gateOf(0, 9)", x.gateOf(0, 9), TideWords.BAD_VALUE);
        Due.due("gateOf(0, -1)", x.gateOf(0, -1), TideWords.BAD_VALUE);
        Due.due("gateOf(4, 9)", x.gateOf(4, 9), TideWords.NO_SUCH);
        Due.due("gateOf(-1, 0)", x.gateOf(-1, 0), TideWords.NO_SUCH);
    }

    private static void word(TideWords x) {
        each(x, "word", 0, new int[] {0, 0, 4, 0, TideWords.NONE, TideWords.NONE, 1, 'a', 'b', 'c', 'd', TideWords.NONE});
        each(x, "word", 1, new int[] {4, TideWords.NONE, 6, 0, TideWords.NONE, TideWords.NONE, 0, 'e', 'f', 'g', 'h', 'i', 'j', TideWords.NONE});
        each(x, "word", 2, new int[] {0, 2, 2, 1, 1, 1, 0, 'k', 'l', TideWords.NONE});
        each(x, "word", 3, new int[] {0, 1, 1, 1, 0, 3, 0, 'm', TideWords.NONE});
        Due.due("word(3, MAX)", x.word(3, Integer.MAX_VALUE), TideWords.NONE);
        Due.due("word(3, -1)", x.word(3, -1), TideWords.BAD_VALUE);
        Due.due("word(3, MIN)", x.word(3, Integer.MIN_VALUE), TideWords.BAD_VALUE);
        Due.due("word(4, -1)", x.word(4, -1), TideWords.NO_SUCH);
        Due.due("word(-1, 0)", x.word(-1, 0), TideWords.NO_SUCH);
        Due.due("word(12, 0)", x.word(12, 0), TideWords.NO_SUCH);
    }

    private static void at(TideWords x) {
        int[] row = {0, 3, 2};
        for (int place = 0; place < 3; place++) {
            Due.due("at(0, " + place + ")", x.at(0, place), row[place]);
        }
        Due.due("at(1, 0)", x.at(1, 0), TideWords.NO_SUCH);
        Due.due("at(0, 3)", x.at(0, 3), TideWords.NO_SUCH);
        Due.due("at(0, -1)", x.at(0, -1), TideWords.NO_SUCH);
        Due.due("at(1, 1)", x.at(1, 1), TideWords.NO_SUCH);
        Due.due("at(2, 0)", x.at(2, 0), TideWords.NO_SUCH);
        Due.due("at(-1, 0)", x.at(-1, 0), TideWords.NO_SUCH);
        Due.due("at(0, MAX)", x.at(0, Integer.MAX_VALUE), TideWords.NO_SUCH);
    }

    private static void count(TideWords x) {
        int[] want = {5, 4, 2, 1, 1, 10, 2, 4, 0, 2, 6};
        for (int what = 0; what < want.length; what++) {
            Due.due("count(" + what + ")", x.count(what), want[what]);
        }
        Due.due("count(11)", x.count(11), TideWords.BAD_VALUE);
        Due.due("count(-1)", x.count(-1), TideWords.BAD_VALUE);
    }

    private static void constants() {
        Due.due("NO_SUCH", TideWords.NO_SUCH, -1001);
        Due.due("BAD_VALUE", TideWords.BAD_VALUE, -1002);
        Due.due("BAD_TEXT", TideWords.BAD_TEXT, -1003);
        Due.due("TOO_MANY", TideWords.TOO_MANY, -1004);
        Due.due("NOT_POSSIBLE", TideWords.NOT_POSSIBLE, -1005);
        Due.due("NONE", TideWords.NONE, -1006);
    }
}
