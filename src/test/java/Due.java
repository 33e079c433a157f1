import java.util.function.IntUnaryOperator;

/** Counts and prints the calls whose answer is not the one that is due. */
final class Due {
    private static int wrong = 0;
    private static int asked = 0;
    private static int askedBefore = 0;
    private static String sentence = "";

    private Due() {
    }

    /** Names the words of the document that the answers from here on hold up. */
    static void says(String section, String... words) {
        endSentence();
        sentence = section + " says '" + String.join(" .. ", words) + "': ";
        for (String part : words) {
            if (!Document.quote(section, part)) {
                wrong("this does not stand there: " + part);
            }
        }
    }

    /** Words that no answer holds up are not tested. */
    static void endSentence() {
        if (!sentence.isEmpty() && asked == askedBefore) {
            wrong("no answer was asked for");
        }
        sentence = "";
        askedBefore = asked;
    }

    static void due(String call, long got, long want) {
        isTrue(got == want, call + " answered " + got + ", due is " + want);
    }

    static void isTrue(boolean holds, String ifNot) {
        asked++;
        if (!holds) {
            wrong(ifNot);
        }
    }

    /** The answers to 0, 1, 2 and so on. */
    static void each(String call, IntUnaryOperator what, int... want) {
        for (int i = 0; i < want.length; i++) {
            due(call + " of " + i, what.applyAsInt(i), want[i]);
        }
    }

    /** Numbers next to a range and far from it are refused, also those of which 8 or 16 bits look like one inside. */
    static void refused(String call, IntUnaryOperator what, int low, int high, int error) {
        int[] outside = {low - 1, high + 1, low - 256, high + 256, low - 65536, low + 65536, -high - 1,
            Integer.MIN_VALUE, Integer.MIN_VALUE + 1, Integer.MAX_VALUE, Integer.MAX_VALUE - 1};
        for (int number : outside) {
            if (number < low || number > high) {
                due(call + " of " + number, what.applyAsInt(number), error);
            }
        }
    }

    private static void wrong(String what) {
        wrong++;
        System.out.println(sentence + what);
    }

    static int wrongSoFar() {
        return wrong;
    }

    static void finish() {
        endSentence();
        System.out.println(wrong == 0 ? asked + " answers are as due" : wrong + " answers are not as due");
        if (wrong != 0) {
            System.exit(1);
        }
    }
}
