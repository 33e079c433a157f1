/** The edges of texts, and of the promises 19 to 21. */
final class TextEdges {
    private TextEdges() {
    }

    static void all() {
        noChanges();
        padSize();
        grammar();
        firstFault();
        endsTooEarly();
        writeOrder();
        writeEightCharacters();
        writeNoCharacter();
        writeCodes();
        writeAboveZero();
        writeTooLong();
        wipe();
        fault();
    }

    private static TideWords with(String text) {
        TideWords x = new TideWords();
        Given.type(x, text);
        return x;
    }

    private static void faults(String text, int want) {
        Due.due("fault() of '" + text + "'", with(text).fault(), want);
    }

    private static void noChanges() {
        Due.says("Texts", "Ahead of the calls `write`, `wipe`, `fault` the interface says: ---- texts.");
        TideWords x = with("ab");
        x.fault();
        x.wipe();
        Due.due("count(10)", x.count(10), 0);
        Due.due("undo()", x.undo(), TideWords.NOT_POSSIBLE);
        Twins.same("fault() of a text that ends too early", Given::busy, TideWords::fault);
        Twins.same("fault() of a text with a fault in its midst", () -> with("ab,,c"), TideWords::fault);
        Twins.same("fault() of a text without one", () -> with("ab,c"), TideWords::fault);
    }

    private static void padSize() {
        Due.says("Texts", "The pad is a text of at most 60 characters,");
        TideWords x = with("abcdef,abcdef,abcdef,abcdef,abcdef,abcdef,abcdef,abcdef,abc");
        Due.due("59 characters", x.count(9), 59);
        Due.due("60 characters", x.write('d'), 60);
        Due.due("61 characters", x.write('e'), TideWords.TOO_MANY);
        Due.due("no fault in 60", x.fault(), TideWords.NONE);
        Due.due("words in 60", x.put(0), 9);
        Due.due("none are left", x.count(9), 0);
        Due.each("the last one", place -> x.word(8, 7 + place), 'a', 'b', 'c', 'd', TideWords.NONE);
    }

    private static void grammar() {
        Due.says("Texts", "words: text = word { \",\" word };");
        faults("a", TideWords.NONE);
        faults("a,b", TideWords.NONE);
        faults("a,b,c,d,e,f,g,h,i,j,k,l,m,n,o,p,q,r,s,t,u,v,w,x,y,z,a,b,c,d", TideWords.NONE);
        faults("a;b", 1);
        faults(",a", 0);
        faults("a,,b", 2);
        Due.says("Texts", "word = letter { letter }, 1 to 6 letters a to z.");
        faults("abcdef", TideWords.NONE);
        faults("abcdefg", 6);
        faults("a,abcdef,z", TideWords.NONE);
        faults("a,abcdefg,z", 8);
        faults("`", 0);
        faults("{", 0);
        faults("A", 0);
        faults("Z", 0);
        for (char letter = 'a'; letter <= 'z'; letter++) {
            faults("" + letter, TideWords.NONE);
        }
    }

    private static void firstFault() {
        Due.says("Texts", "The fault is the index of the first character that cannot stand at its place when the text is read from left to right;");
        faults("1a2", 0);
        faults("a1b2", 1);
        faults("ab,,,", 3);
        faults("abcdefghij", 6);
        faults("abcdef1", 6);
        faults("abc.defg", 3);
        faults("abcdef,abcdef,abcdef,abcdef,abcdef,abcdef,abcdef,abcdef,ab.,", 58);
        faults("abcdef,abcdef,abcdef,abcdef,abcdef,abcdef,abcdef,abcdef,abc!", 59);
    }

    private static void endsTooEarly() {
        Due.says("Texts", "if there is none and the text ends too early (also if it is empty), it is the length of the text.");
        faults("", 0);
        faults("a,", 2);
        faults("abcdef,", 7);
        faults("a,b,", 4);
        faults("abcdef,abcdef,abcdef,abcdef,abcdef,abcdef,abcdef,abcdef,abc,", 60);
        TideWords x = with("a");
        x.wipe();
        Due.due("empty again", x.fault(), 0);
    }

    private static void writeOrder() {
        Due.says("Promise 19", "Appends characters to the pad. They are given as a number: its lowest 8 bits are the last character, the next 8 bits the one before, and so on;");
        TideWords x = new TideWords();
        Due.due("one", x.write(97), 1);
        Due.due("two", x.write(98 * 256 + 99), 3);
        Due.due("three", x.write((100 * 256 + 101) * 256 + 102), 6);
        x.put(0);
        Due.each("in their order", place -> x.word(0, 7 + place), 97, 98, 99, 100, 101, 102, TideWords.NONE);
        Due.says("Promise 19", "Returns the length of the pad then;");
        Due.due("behind put", x.write('a'), 1);
        Due.due("behind another", x.write('b'), 2);
        Due.due("a comma", x.write(','), 3);
    }

    private static void writeEightCharacters() {
        Due.says("Promise 19", "`characters`: 1 to 8 characters");
        String eight = "ab,cdefg";
        for (int length = 1; length <= 8; length++) {
            TideWords x = new TideWords();
            Due.due(length + " characters", x.write(Given.packed(eight.substring(8 - length))), length);
        }
        TideWords x = with(eight);
        x.put(1);
        Due.each("the first", place -> x.word(0, 7 + place), 'a', 'b', TideWords.NONE);
        Due.each("the last", place -> x.word(1, 7 + place), 'c', 'd', 'e', 'f', 'g', TideWords.NONE);
        TideWords y = new TideWords();
        Due.due("8 of the greatest code", y.write(0x7e7e7e7e7e7e7e7eL), 8);
        Due.due("8 of the least code", y.write(0x2121212121212121L), 16);
    }

    private static void writeNoCharacter() {
        Due.says("Promise 19", "BAD_VALUE if there is no character,");
        TideWords x = new TideWords();
        Due.due("write(0)", x.write(0), TideWords.BAD_VALUE);
        x.write('a');
        Due.due("write(0)", x.write(0), TideWords.BAD_VALUE);
        Due.due("length", x.count(9), 1);
    }

    private static void writeCodes() {
        Due.says("Promise 19", "a code is not 33 to 126,");
        for (int code = 1; code <= 255; code++) {
            boolean isGood = code >= 33 && code <= 126;
            TideWords x = new TideWords();
            Due.due("the code " + code, x.write(code), isGood ? 1 : TideWords.BAD_VALUE);
            x.wipe();
            Due.due("the last one of 8 is " + code, x.write(0x6161616161616100L | code), isGood ? 8 : TideWords.BAD_VALUE);
            x.wipe();
            Due.due("the first one of 8 is " + code, x.write((long) code << 56 | 0x61616161616161L), isGood ? 8 : TideWords.BAD_VALUE);
            x.wipe();
            Due.due("the first one of 2 is " + code, x.write((long) code << 8 | 'a'), isGood ? 2 : TideWords.BAD_VALUE);
            Due.due("length", x.count(9), isGood ? 2 : 0);
        }
        TideWords x = new TideWords();
        Due.due("all bits", x.write(-1), TideWords.BAD_VALUE);
        Due.due("the greatest number", x.write(Long.MAX_VALUE), TideWords.BAD_VALUE);
        Due.due("an 8th code above 127", x.write(Long.MIN_VALUE | 0x6161616161616161L), TideWords.BAD_VALUE);
    }

    private static void writeAboveZero() {
        Due.says("Promise 19", "8 bits that are 0 mean that there are no more characters, and everything above them has to be 0, too.");
        TideWords x = new TideWords();
        Due.due("nothing above", x.write('a'), 1);
        Due.says("Promise 19", "or a bit above 8 bits that are 0 is not 0;");
        for (int bit = 16; bit < 64; bit++) {
            Due.due("the bit " + bit, x.write(1L << bit | 'a'), TideWords.BAD_VALUE);
        }
        Due.due("a character above", x.write((long) 'a' << 16 | 'b'), TideWords.BAD_VALUE);
        Due.due("the lowest 8 bits", x.write('a' << 8), TideWords.BAD_VALUE);
        Due.due("the highest bit alone", x.write(Long.MIN_VALUE), TideWords.BAD_VALUE);
        Due.due("0 in the midst of 8", x.write(0x6161616100616161L), TideWords.BAD_VALUE);
        Due.due("0 ahead of the highest", x.write(0x6100616161616161L), TideWords.BAD_VALUE);
        Due.due("0 below the others", x.write(0x6161616161616100L), TideWords.BAD_VALUE);
    }

    private static void writeTooLong() {
        Due.says("Promise 19", "TOO_MANY if the pad would be longer than 60.");
        for (int free = 0; free <= 8; free++) {
            TideWords x = with("a".repeat(60 - free));
            for (int more = 8; more > free; more--) {
                Due.due(more + " for " + free, x.write(Given.packed("b".repeat(more))), TideWords.TOO_MANY);
            }
            Due.due("length", x.count(9), 60 - free);
            if (free > 0) {
                Due.due(free + " for " + free, x.write(Given.packed("b".repeat(free))), 60);
            }
        }
    }

    private static void wipe() {
        Due.says("Promise 20", "Empties the pad, and returns the length that it had.");
        TideWords x = new TideWords();
        Due.due("empty", x.wipe(), 0);
        x.write('a');
        Due.due("one", x.wipe(), 1);
        Due.due("empty again", x.wipe(), 0);
        Due.due("length", x.count(9), 0);
        Given.type(x, "?".repeat(60));
        Due.due("full", x.wipe(), 60);
        Due.due("room again", x.write('b'), 1);
        x.put(0);
        Due.each("nothing is left of it", place -> x.word(0, 7 + place), 'b', TideWords.NONE);
    }

    private static void fault() {
        Due.says("Promise 21", "Returns the fault of the pad,");
        TideWords x = new TideWords();
        Due.due("empty", x.fault(), 0);
        Due.says("Promise 21", "NONE if there is none.");
        Given.type(x, "abc");
        Due.due("a word", x.fault(), TideWords.NONE);
        Due.due("once more", x.fault(), TideWords.NONE);
        x.write(',');
        Due.due("more has to come", x.fault(), 4);
        x.write('z');
        Due.due("it came", x.fault(), TideWords.NONE);
        x.write('!');
        Due.due("this may not come", x.fault(), 5);
        x.write('a');
        Due.due("the first fault", x.fault(), 5);
    }
}
