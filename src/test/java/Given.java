/** Objects to begin a test with, and texts for them. */
final class Given {
    static final String TWELVE = "a,b,c,d,e,f,g,h,i,j,k,l";

    private Given() {
    }

    /** Levels that stay as they are. */
    static TideWords levels(int first, int second) {
        TideWords x = new TideWords();
        x.tide(0, first, 0, 2);
        x.tide(1, second, 0, 2);
        return x;
    }

    /** Told levels that never differ: every gate is open unless it is shut. */
    static TideWords steady() {
        return levels(100, 100);
    }

    /** Levels that agree in the step 1770 alone, and in every 3540th from there: the top of 60 steps, the bottom of 59. */
    static TideWords seldom(int step) {
        TideWords x = new TideWords();
        x.tide(0, 100, 100, 60);
        x.tide(1, 300, 100, 59);
        run(x, step);
        return x;
    }

    /** Words 0 to 3: one is back in its row, one is in the gate 2, two have passed; the pad has two characters, the slot 0 a state. */
    static TideWords busy() {
        TideWords x = new TideWords();
        x.tide(0, 104, 0, 9);
        x.tide(1, 100, 0, 7);
        x.gauge(1, -1);
        x.gate(2, 0, 30, 1);
        bring(x, 0, "abcd,efghij");
        bring(x, 1, "kl,m");
        x.run(2);
        x.save(0);
        x.gauge(0, 20);
        x.run(3);
        type(x, "q,");
        return x;
    }

    /** As many words as there can be, in the row of the store 0. */
    static TideWords twelve() {
        TideWords x = steady();
        bring(x, 0, TWELVE);
        return x;
    }

    static void run(TideWords x, int steps) {
        for (int left = steps; left > 0; left -= 500) {
            x.run(Math.min(left, 500));
        }
    }

    /** Writes a text of any length to the pad, up to 8 characters a call. */
    static void type(TideWords x, String text) {
        for (int from = 0; from < text.length(); from += 8) {
            x.write(packed(text.substring(from, Math.min(from + 8, text.length()))));
        }
    }

    /** Empties the pad, types a text, and puts its words into the row of a store. */
    static int bring(TideWords x, int store, String text) {
        x.wipe();
        type(x, text);
        return x.put(store);
    }

    static long packed(String text) {
        long characters = 0;
        for (int i = 0; i < text.length(); i++) {
            characters = characters << 8 | text.charAt(i);
        }
        return characters;
    }
}
