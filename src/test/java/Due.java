/** Counts and prints the calls whose answer is not the one that is due. */
final class Due {
    private static int wrong = 0;
    private static int asked = 0;

    private Due() {
    }

    static void due(String call, long got, long want) {
        asked++;
        if (got != want) {
            wrong++;
            System.out.println(call + " answered " + got + ", due is " + want);
        }
    }

    /** Writes a text of any length to the pad, up to 8 characters a call. */
    static void type(TideWords x, String text) {
        for (int from = 0; from < text.length(); from += 8) {
            x.write(packed(text.substring(from, Math.min(from + 8, text.length()))));
        }
    }

    /** Empties the pad, types a text, and puts its words into the row of a store. */
    static int bring(TideWords x, int store, String text) {
        x.wipe();
        type(x, text);
        return x.put(store);
    }

    static long packed(String text) {
        long characters = 0;
        for (int i = 0; i < text.length(); i++) {
            characters = characters << 8 | text.charAt(i);
        }
        return characters;
    }

    static void finish() {
        System.out.println(wrong == 0 ? asked + " answers are as due" : wrong + " answers are not as due");
        if (wrong != 0) {
            System.exit(1);
        }
    }
}
