/** Promises 19 to 21: write, wipe and fault. */
public final class TextsTest {
    public static void main(String[] args) {
        write();
        writeErrors();
        tooLong();
        wipe();
        fault();
        eachCharacter();
        noChanges();
        Due.finish();
    }

    private static void write() {
        TideWords x = new TideWords();
        Due.due("write(b)", x.write('b'), 1);
        Due.due("write(ac): the lowest bits are the last one", x.write('a' << 8 | 'c'), 3);
        Due.due("write of 8 characters", x.write(Given.packed("g,hijkl,")), 11);
        Due.due("write(m)", x.write('m'), 12);
        Due.due("put", x.put(0), 3);
        String[] words = {"bacg", "hijkl", "m"};
        for (int word = 0; word < 3; word++) {
            for (int i = 0; i < words[word].length(); i++) {
                Due.due("letter " + i + " of " + word, x.word(word, 7 + i), words[word].charAt(i));
            }
            Due.due("length of " + word, x.word(word, 2), words[word].length());
        }
    }

    private static void writeErrors() {
        TideWords x = new TideWords();
        Due.due("no character", x.write(0), TideWords.BAD_VALUE);
        Due.due("the code 32", x.write(32), TideWords.BAD_VALUE);
        Due.due("the code 33", x.write(33), 1);
        Due.due("the code 126", x.write(126), 2);
        Due.due("the code 127", x.write(127), TideWords.BAD_VALUE);
        Due.due("the code 255", x.write(255), TideWords.BAD_VALUE);
        Due.due("the code 32 ahead of another one", x.write(32 << 8 | 'a'), TideWords.BAD_VALUE);
        Due.due("something above 8 bits that are 0", x.write((long) 'a' << 16 | 'a'), TideWords.BAD_VALUE);
        Due.due("a bit above 8 bits that are 0", x.write(1L << 63 | 'a'), TideWords.BAD_VALUE);
        Due.due("something above, but no last character", x.write('a' << 8), TideWords.BAD_VALUE);
        Due.due("write(-1)", x.write(-1), TideWords.BAD_VALUE);
        Due.due("write(MIN)", x.write(Long.MIN_VALUE), TideWords.BAD_VALUE);
        Due.due("the code 225 ahead of seven", x.write(Given.packed("abcdefg") | 225L << 56), TideWords.BAD_VALUE);
        Due.due("the length is the same", x.count(9), 2);
    }

    private static void tooLong() {
        TideWords x = new TideWords();
        for (int i = 1; i <= 7; i++) {
            Due.due("write of 8, " + i, x.write(Given.packed("abcdefgh")), 8 * i);
        }
        Due.due("61 characters", x.write(Given.packed("abcde")), TideWords.TOO_MANY);
        Due.due("61 characters, a bad one", x.write(Given.packed("abc e")), TideWords.BAD_VALUE);
        Due.due("60 characters", x.write(Given.packed("abcd")), 60);
        Due.due("one more", x.write('a'), TideWords.TOO_MANY);
        Due.due("one more, a bad one", x.write(1), TideWords.BAD_VALUE);
        Due.due("length", x.count(9), 60);
        Due.due("fault", x.fault(), 6);
        x.wipe();
        Given.type(x, "abcdef,abcdef,abcdef,abcdef,abcdef,abcdef,abcdef,abcdef,abc,");
        Due.due("60 characters, ended too early", x.fault(), 60);
    }

    private static void wipe() {
        TideWords x = new TideWords();
        Due.due("wipe()", x.wipe(), 0);
        Given.type(x, "hello,world");
        Due.due("wipe()", x.wipe(), 11);
        Due.due("wipe()", x.wipe(), 0);
        Due.due("length", x.count(9), 0);
        Given.type(x, "ab");
        Due.due("the new text alone", x.put(0), 1);
        Due.due("its length", x.word(0, 2), 2);
    }

    private static void fault() {
        String[] texts = {"", "a", "abcdef", "abcdefg", "abcdef,", "abcdef,g", ",", "a,,b", "a,b,", "aB", "A", "a,b,cdefghi", "a,b-c",
            "ab,cdefgh,ijklmn,o", "a{", "`", "z", "a.b", "ab,cdefghi,jklmnopq"};
        int[] faults = {0, -1, -1, 6, 7, -1, 0, 2, 4, 1, 0, 10, 3, -1, 1, 0, -1, 1, 9};
        for (int i = 0; i < texts.length; i++) {
            TideWords x = new TideWords();
            Given.type(x, texts[i]);
            Due.due("fault of '" + texts[i] + "'", x.fault(), faults[i] < 0 ? TideWords.NONE : faults[i]);
            Due.due("length of '" + texts[i] + "'", x.count(9), texts[i].length());
        }
    }

    private static void eachCharacter() {
        for (int code = 33; code <= 126; code++) {
            TideWords x = new TideWords();
            boolean isLetter = code >= 'a' && code <= 'z';
            Due.due("write(" + code + ")", x.write(code), 1);
            Due.due("fault of " + code, x.fault(), isLetter ? TideWords.NONE : 0);
            x.wipe();
            x.write('a' << 8 | code);
            Due.due("fault of a and " + code, x.fault(), isLetter ? TideWords.NONE : code == ',' ? 2 : 1);
        }
    }

    private static void noChanges() {
        TideWords x = new TideWords();
        Given.type(x, "ab");
        x.fault();
        x.wipe();
        Due.due("texts are no changes", x.count(10), 0);
    }
}
