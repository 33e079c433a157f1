/** The edges of a step. */
final class StepEdges {
    private StepEdges() {
    }

    static void all() {
        byTheirNumbers();
        takesFirstThatHasNotPassed();
        takesNoneIfNone();
        passesOneMoreLetter();
        lastLetter();
        wayBack();
        backAheadOfAll();
        backAndTakenInOneStep();
        wayStay();
        countOfSteps();
    }

    private static void byTheirNumbers() {
        Due.says("A step", "In a step the gates act by their numbers:");
        TideWords x = Given.steady();
        x.gate(1, 0, 5, 0);
        x.gate(3, 0, 5, 0);
        Given.bring(x, 0, "ab,c,de,f,g");
        Due.due("run(1)", x.run(1), 2);
        Due.each("the words in the gates", gate -> x.gateOf(gate, 5), 0, TideWords.NONE, 2, TideWords.NONE);
        Due.each("the row 1: the gate 1 ahead of 3", place -> x.at(1, place), 1, 3, TideWords.NO_SUCH);
        Due.due("run(1)", x.run(1), 3);
        Due.each("the row 1: 0, 1, 2", place -> x.at(1, place), 1, 3, 0, 4, 2, TideWords.NO_SUCH);
    }

    private static void takesFirstThatHasNotPassed() {
        Due.says("A step", "An open gate that has no word takes the first word in the row of its side that has not passed, if there is one.");
        TideWords x = Given.steady();
        Given.bring(x, 1, "a,b");
        x.run(1);
        Given.bring(x, 0, "cdef,gh,ij");
        Due.each("two that have passed are ahead", place -> x.at(0, place), 0, 1, 2, 3, 4, TideWords.NO_SUCH);
        x.shut(2, true);
        x.run(1);
        Due.due("the third is taken", x.gateOf(0, 5), 2);
        Due.each("those that have passed stay", place -> x.at(0, place), 0, 1, 3, 4, TideWords.NO_SUCH);
        x.run(1);
        Due.due("a gate that has a word takes no other one", x.gateOf(0, 5), 2);
        Due.each("the row is the same", place -> x.at(0, place), 0, 1, 3, 4, TideWords.NO_SUCH);
        x.shut(2, false);
        x.shut(0, true);
        x.run(1);
        Due.due("a gate that is shut takes none", x.gateOf(0, 5), TideWords.NONE);
        Due.due("the open one takes what went back", x.gateOf(2, 5), 2);
    }

    private static void takesNoneIfNone() {
        TideWords x = Given.steady();
        Due.due("empty rows", x.run(3), 0);
        Due.each("no words", gate -> x.gateOf(gate, 5), TideWords.NONE, TideWords.NONE, TideWords.NONE, TideWords.NONE);
        Given.bring(x, 0, "a");
        Due.due("one word for two gates", x.run(1), 1);
        Due.each("no words", gate -> x.gateOf(gate, 5), TideWords.NONE, TideWords.NONE, TideWords.NONE, TideWords.NONE);
        Due.due("only one that has passed", x.run(1), 0);
        Due.each("it comes once", place -> x.at(1, place), 0, TideWords.NO_SUCH);
        Due.due("letters", x.count(5), 1);
    }

    private static void passesOneMoreLetter() {
        Due.says("A step", "Then an open gate that has a word passes one more letter of it.");
        TideWords x = Given.steady();
        Given.bring(x, 0, "abcdef");
        for (int letters = 1; letters <= 5; letters++) {
            x.run(1);
            Due.due("letters in the gate", x.gateOf(0, 6), letters);
            Due.due("letters in all", x.count(5), letters);
        }
        Due.due("the sixth", x.run(1), 1);
        Due.due("letters in the gate", x.gateOf(0, 6), 0);
        Due.due("letters in all", x.count(5), 6);
    }

    private static void lastLetter() {
        Due.says("A step", "If that was the last one, the word has passed: it comes to the end of the row of the other store, and the gate has none.");
        TideWords x = Given.steady();
        Given.bring(x, 1, "xxxxxx,yyyyyy,z");
        Given.bring(x, 0, "a,bb,c");
        x.shut(2, true);
        Due.due("one letter: taken and passed in one step", x.run(1), 1);
        Due.each("the end of the other row", place -> x.at(1, place), 2, 3, TideWords.NO_SUCH);
        Due.due("the gate has none", x.gateOf(0, 5), TideWords.NONE);
        Due.due("it takes the next one in the next step", x.run(1), 0);
        Due.due("the gate has the next one", x.gateOf(0, 5), 4);
        Due.due("its last letter", x.run(1), 1);
        Due.each("behind the first", place -> x.at(1, place), 2, 3, 4, TideWords.NO_SUCH);
        Due.due("the gate has none", x.gateOf(0, 5), TideWords.NONE);
        Due.due("no letters of it", x.gateOf(0, 6), 0);
        Due.due("the step", x.word(4, 4), 2);
    }

    private static void wayBack() {
        Due.says("A step", "A gate that is not open, and has a word: with the way 0 the word goes back, ahead of all others, to the row from which it came, and the letters of it that were passed count as vain,");
        TideWords x = Given.steady();
        Given.bring(x, 0, "abcdef");
        x.run(5);
        x.gauge(0, 6);
        Due.due("nothing goes back before the step", x.gateOf(0, 6), 5);
        Due.due("run(1)", x.run(1), 0);
        Due.due("in its row", x.word(0, 0), 0);
        Due.due("once back", x.word(0, 6), 1);
        Due.due("vain in the gate", x.gateOf(0, 8), 5);
        Due.due("vain in all", x.count(6), 5);
        Due.due("letters, vain ones too", x.count(5), 5);
        Due.due("the gate has none", x.gateOf(0, 5), TideWords.NONE);
        Due.due("no letters of it", x.gateOf(0, 6), 0);
        x.run(3);
        Due.due("a closed gate without a word does nothing", x.word(0, 6), 1);
        Due.due("vain in all", x.count(6), 5);
        x.gauge(0, 5);
        Due.due("again from the first letter", x.run(5), 0);
        Due.due("with the last one", x.run(1), 1);
        Due.due("letters, vain ones too", x.count(5), 11);
        x.gauge(0, 6);
        x.run(1);
        Due.due("one that has passed does not go back", x.word(0, 6), 1);
        Due.due("nor do its letters", x.count(6), 5);
        TideWords side = Given.steady();
        side.shut(3, true);
        Given.bring(side, 1, "ab,c");
        side.run(1);
        side.shut(1, true);
        side.run(1);
        Due.each("back to the row 1", place -> side.at(1, place), 0, 1, TideWords.NO_SUCH);
    }

    private static void backAheadOfAll() {
        TideWords x = Given.steady();
        Given.bring(x, 1, "p,q");
        x.run(1);
        Given.bring(x, 0, "abc,def,ghi");
        x.run(1);
        Due.each("ahead", place -> x.at(0, place), 0, 1, 4, TideWords.NO_SUCH);
        x.gauge(1, 50);
        x.run(1);
        Due.each("the word of 2 ahead of that of 0, both ahead of those that passed", place -> x.at(0, place), 3, 2, 0, 1, 4, TideWords.NO_SUCH);
        TideWords full = Given.steady();
        Given.bring(full, 0, "aa,bb,cc,dd,ee,ff,gg,hh,ii,jj,kk,ll");
        full.run(1);
        full.gauge(1, 50);
        full.run(1);
        Due.each("a row of 12 words", place -> full.at(0, place), 1, 0, 2, 3, 4, 5, 6, 7, 8, 9, 10, 11, TideWords.NO_SUCH);
    }

    private static void backAndTakenInOneStep() {
        TideWords x = Given.steady();
        x.shut(2, true);
        Given.bring(x, 0, "abc,def");
        x.run(2);
        x.shut(2, false);
        x.shut(0, true);
        x.run(1);
        Due.due("0 gives it back, 2 takes it", x.gateOf(2, 5), 0);
        Due.due("from its first letter", x.gateOf(2, 6), 1);
        x.shut(0, false);
        x.shut(2, true);
        x.run(1);
        Due.due("0 has taken the other one before 2 gives it back", x.gateOf(0, 5), 1);
        Due.due("it waits in its row", x.word(0, 0), 0);
        Due.due("twice back", x.word(0, 6), 2);
        Due.due("2 and 1 letters in vain", x.count(6), 3);
    }

    private static void wayStay() {
        Due.says("A step", "with the way 1 it stays, with the letters passed so far.");
        TideWords x = Given.steady();
        x.gate(0, 0, 5, 1);
        Given.bring(x, 0, "abcdef,ghijkl");
        x.run(5);
        x.gauge(0, 6);
        Due.due("run(9)", x.run(9), 0);
        Due.due("it stays", x.gateOf(0, 5), 0);
        Due.due("with its letters", x.gateOf(0, 6), 5);
        Due.due("the other one went back by the gate 2", x.gateOf(2, 8), 5);
        Due.due("not this one", x.gateOf(0, 8), 0);
        x.gauge(0, 5);
        Due.due("one letter more", x.run(1), 1);
        Due.due("no letter twice", x.count(5), 12);
        TideWords turned = Given.steady();
        turned.gate(0, 0, 5, 1);
        Given.bring(turned, 0, "abc");
        turned.run(2);
        turned.shut(0, true);
        turned.run(1);
        turned.gate(0, 0, 5, 0);
        turned.run(1);
        Due.due("back when the way is 0 again", turned.gateOf(0, 8), 2);
    }

    private static void countOfSteps() {
        Due.says("A step", "Then the count of steps becomes 1 more.");
        TideWords x = Given.steady();
        Given.bring(x, 0, "a,b,cc");
        x.run(1);
        Due.due("the step 0 is made", x.count(0), 1);
        Due.due("a word passed in the step 0", x.word(0, 4), 0);
        x.run(2);
        Due.due("3 steps are made", x.count(0), 3);
        Due.due("the last letter passed in the step 2", x.word(2, 4), 2);
    }
}
