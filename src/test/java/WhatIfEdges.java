import java.util.function.Supplier;

/** The edges of the promises 13 to 18. */
final class WhatIfEdges {
    private WhatIfEdges() {
    }

    static void all() {
        nothingChanges();
        untilOpen();
        untilOpenNone();
        openFor();
        openForMost();
        openForErrors();
        untilPassed();
        untilPassedNone();
        ifRunRange();
        ifRunWords();
        ifRunVain();
        ifRunBack();
        ifRunIdle();
        leastSlack();
        leastSlackMost();
        leastSlack200();
        leastSlackErrors();
        bestLie();
        bestLieShut();
        bestLie200();
        bestLieNearest();
        bestLieErrors();
        beyondTheLastStep();
    }

    private static void nothingChanges() {
        Due.says("Texts", "Ahead of the calls `untilOpen`, `openFor`, `untilPassed`, `ifRun`, `leastSlack`, `bestLie` the interface says: ---- what if; nothing changes.");
        for (int i = 0; i < 4; i++) {
            nothingChanges(i, "", Given::busy);
            nothingChanges(i, ", all gates shut", WhatIfEdges::allShut);
        }
    }

    private static TideWords allShut() {
        TideWords x = Given.busy();
        for (int gate = 0; gate < 4; gate++) {
            x.shut(gate, true);
        }
        return x;
    }

    private static void nothingChanges(int i, String state, Supplier<TideWords> maker) {
        Twins.same("untilOpen(" + i + ")" + state, maker, x -> x.untilOpen(i));
        Twins.same("openFor(" + i + ")" + state, maker, x -> x.openFor(i));
        Twins.same("untilPassed(" + i + ")" + state, maker, x -> x.untilPassed(i));
        Twins.same("ifRun(1000, " + i + ")" + state, maker, x -> x.ifRun(1000, i));
        Twins.same("leastSlack(" + i + ", 0)" + state, maker, x -> x.leastSlack(i, 0));
        Twins.same("leastSlack(" + i + ", 1)" + state, maker, x -> x.leastSlack(i, 1));
        Twins.same("bestLie(0, " + i + ")" + state, maker, x -> x.bestLie(0, i));
        Twins.same("bestLie(1, " + i + ")" + state, maker, x -> x.bestLie(1, i));
    }

    private static void untilOpen() {
        Due.says("Promise 13", "Tells behind how many steps a gate is open next, all else as it is.");
        TideWords x = Given.seldom(1769);
        Due.due("in the next step", x.untilOpen(1), 1);
        x.shut(1, true);
        Due.due("one that is shut is never open", x.untilOpen(1), TideWords.NONE);
        Due.due("another one is", x.untilOpen(2), 1);
        Due.says("Promise 13", "Returns how many, 0 if it is open now;");
        x.run(1);
        Due.due("now", x.untilOpen(2), 0);
        x.run(1);
        Due.due("a whole round but one step: 60 * 59 - 1", x.untilOpen(2), 3539);
        Due.says("Promise 13", "NO_SUCH if there is no such gate;");
        Due.refused("untilOpen", x::untilOpen, 0, 3, TideWords.NO_SUCH);
    }

    private static void untilOpenNone() {
        Due.says("Promise 13", "NONE if it is not in the next 4000 steps (that of now is the first of these).");
        TideWords x = Given.levels(100, 106);
        Due.due("never", x.untilOpen(0), TideWords.NONE);
        x.gate(0, 0, 6, 0);
        Due.due("now", x.untilOpen(0), 0);
        x.shut(0, true);
        Due.due("shut", x.untilOpen(0), TideWords.NONE);
        TideWords y = new TideWords();
        y.tide(0, 100, 100, 60);
        y.tide(1, 300, 100, 60);
        Due.due("top and bottom never meet", y.untilOpen(0), TideWords.NONE);
    }

    private static void openFor() {
        Due.says("Promise 14", "Tells for how many steps one behind the other a gate is open, from the next one on in which it is.");
        TideWords x = Given.seldom(0);
        Due.due("in the step 1770 alone", x.openFor(0), 1);
        Given.run(x, 1770);
        Due.due("in this one alone", x.openFor(0), 1);
        TideWords y = new TideWords();
        Due.due("the steps 0 to 5", y.openFor(0), 6);
        y.run(5);
        Due.due("the step 5 is left", y.openFor(0), 1);
        y.run(1);
        Due.due("the next ones: the step 11 alone", y.openFor(0), 1);
        Due.due("behind 5", y.untilOpen(0), 5);
    }

    private static void openForMost() {
        Due.says("Promise 14", "Returns how many, up to 4000;");
        TideWords x = Given.levels(100, 105);
        Due.due("for ever", x.openFor(0), 4000);
        x.run(1);
        Due.due("for ever, a step later", x.openFor(0), 4000);
        TideWords y = new TideWords();
        y.tide(0, 100, 20, 59);
        y.tide(1, 120, 20, 60);
        y.gate(0, 0, 59, 0);
        Due.due("until the step 1770, when the levels differ by 60", y.openFor(0), 1770);
        Given.run(y, 1770);
        Due.due("until the next such step", y.openFor(0), 3539);
    }

    private static void openForErrors() {
        TideWords x = Given.steady();
        Due.says("Promise 14", "NO_SUCH if there is no such gate;");
        Due.refused("openFor", x::openFor, 0, 3, TideWords.NO_SUCH);
        Due.says("Promise 14", "NONE as untilOpen().");
        x.shut(3, true);
        Due.due("shut", x.openFor(3), TideWords.NONE);
        x.gauge(0, 6);
        Due.each("never", x::openFor, TideWords.NONE, TideWords.NONE, TideWords.NONE, TideWords.NONE);
        x.gauge(0, 5);
        Due.each("for ever", x::openFor, 4000, 4000, 4000, TideWords.NONE);
    }

    private static void untilPassed() {
        TideWords x = Given.steady();
        Given.bring(x, 0, "a,bcdefg,hi");
        Due.says("Promise 15", "Tells behind how many steps a word has passed, if nothing else is done.");
        Due.each("a letter a step", x::untilPassed, 1, 6, 3);
        x.run(2);
        Due.each("two steps later", x::untilPassed, 0, 4, 1);
        x.run(1);
        Due.says("Promise 15", "Returns how many, 0 if it has;");
        Due.each("three steps later", x::untilPassed, 0, 3, 0);
        x.shut(0, true);
        x.shut(2, true);
        Due.each("when it has, even if its gate is shut", x::untilPassed, 0, TideWords.NONE, 0);
        Due.says("Promise 15", "NO_SUCH if there is no such word;");
        Due.refused("untilPassed", x::untilPassed, 0, 2, TideWords.NO_SUCH);
        Due.due("no words at all", new TideWords().untilPassed(0), TideWords.NO_SUCH);
    }

    private static void untilPassedNone() {
        Due.says("Promise 15", "NONE if it has not in 1000 steps.");
        TideWords x = Given.seldom(770);
        Given.bring(x, 0, "a");
        Due.due("in the step 1770: behind 1001", x.untilPassed(0), TideWords.NONE);
        x.run(1);
        Due.due("behind 1000", x.untilPassed(0), 1000);
        x.run(1);
        Due.due("behind 999", x.untilPassed(0), 999);
        Given.run(x, 998);
        Due.due("in the next step", x.untilPassed(0), 1);
        x.run(1);
        Due.due("now it has", x.untilPassed(0), 0);
        TideWords y = Given.seldom(0);
        Given.bring(y, 0, "ab");
        Due.due("never, for a gate that is open for one step", y.untilPassed(0), TideWords.NONE);
    }

    private static void ifRunRange() {
        Due.says("Promise 16", "Tells what steps would bring.", "`steps`: 1 to 1000");
        TideWords x = Given.levels(100, 300);
        Due.due("one step", x.ifRun(1, 3), 1);
        Due.due("501 steps", x.ifRun(501, 3), 501);
        Due.due("1000 steps", x.ifRun(1000, 3), 1000);
        Due.says("Promise 16", "Returns the number; BAD_VALUE if an argument is out of range.");
        Due.refused("ifRun(.., 0)", steps -> x.ifRun(steps, 0), 1, 1000, TideWords.BAD_VALUE);
        Due.refused("ifRun(1, ..)", what -> x.ifRun(1, what), 0, 3, TideWords.BAD_VALUE);
        Due.due("both", x.ifRun(0, 4), TideWords.BAD_VALUE);
    }

    private static void ifRunWords() {
        Due.says("Promise 16", "`what`: 0 words that pass in them,");
        TideWords x = Given.seldom(770);
        Given.bring(x, 0, "a,b,c");
        Due.due("the step 1770 is not among them", x.ifRun(1000, 0), 0);
        x.run(1);
        Due.due("it is the last one of them, for two gates", x.ifRun(1000, 0), 2);
        Due.due("it is not", x.ifRun(999, 0), 0);
        TideWords y = Given.twelve();
        y.run(1);
        Due.due("those that have passed before do not count", y.ifRun(1000, 0), 10);
    }

    private static void ifRunVain() {
        Due.says("Promise 16", "1 letters that are passed in vain,");
        TideWords x = Given.seldom(1769);
        Given.bring(x, 0, "abc,def");
        Due.due("no letter", x.ifRun(1, 1), 0);
        Due.due("two letters, not in vain yet", x.ifRun(2, 1), 0);
        Due.due("two letters in vain", x.ifRun(3, 1), 2);
        Due.due("no more", x.ifRun(1000, 1), 2);
        x.run(3);
        Due.due("those before do not count", x.ifRun(1000, 1), 0);
    }

    /** The gate 0 is open in every third step, and gives its word back in the next one. */
    private static TideWords everyThird() {
        TideWords x = new TideWords();
        x.tide(0, 110, 10, 3);
        x.tide(1, 100, 0, 2);
        for (int gate = 1; gate < 4; gate++) {
            x.shut(gate, true);
        }
        Given.bring(x, 0, "ab");
        return x;
    }

    private static void ifRunBack() {
        Due.says("Promise 16", "2 words that go back (each time counted),");
        TideWords x = everyThird();
        Due.due("taken", x.ifRun(1, 2), 0);
        Due.due("and back", x.ifRun(2, 2), 1);
        Due.due("the same word twice", x.ifRun(5, 2), 2);
        Due.due("and on", x.ifRun(1000, 2), 333);
        x.run(5);
        Due.due("those before do not count", x.ifRun(3, 2), 1);
    }

    private static void ifRunIdle() {
        Due.says("Promise 16", "3 steps in which no gate is open");
        TideWords x = everyThird();
        Due.due("the step 0", x.ifRun(1, 3), 0);
        Due.due("the steps 0 and 1", x.ifRun(2, 3), 1);
        Due.due("1000 steps", x.ifRun(1000, 3), 666);
        x.run(3);
        Due.due("those before do not count", x.ifRun(1, 3), 0);
    }

    private static void leastSlack() {
        Due.says("Promise 17", "Finds the least slack of a gate with which the most words pass in the next 200 steps, all else as it is.", "`what`: 0 the slack, 1 how many words pass");
        int[] gaps = {0, 1, 2, 50, 98, 99};
        for (int gap : gaps) {
            TideWords x = Given.levels(100 + gap, 100);
            x.gate(1, 0, 0, 0);
            x.gate(2, 0, 0, 0);
            Given.bring(x, 0, "ab");
            Due.each("the gap " + gap, what -> x.leastSlack(3, what), 0, gap <= 5 ? 1 : 0);
            Due.each("the gap " + gap, what -> x.leastSlack(0, what), gap == 0 ? 0 : gap, 1);
        }
        TideWords far = Given.levels(200, 100);
        Given.bring(far, 0, "ab");
        Due.each("the gap 100: 0 words with each slack", what -> far.leastSlack(0, what), 0, 0);
        TideWords none = Given.levels(150, 100);
        Due.each("no words", what -> none.leastSlack(0, what), 0, 0);
        Given.bring(none, 1, "ab");
        Due.each("none on its side", what -> none.leastSlack(0, what), 0, 0);
        none.shut(1, true);
        Due.each("shut by hand", what -> none.leastSlack(1, what), 0, 0);
        Due.each("another one is not", what -> none.leastSlack(3, what), 50, 1);
    }

    private static void leastSlackMost() {
        TideWords x = Given.levels(150, 100);
        Given.bring(x, 0, "a,b,c,d,e,f,g,h,i,j,k,l");
        x.gate(2, 0, 50, 0);
        Due.each("without the gate 0: all", what -> x.leastSlack(0, what), 0, 12);
        x.run(2);
        Due.each("those that have passed before do not count", what -> x.leastSlack(0, what), 0, 10);
        x.run(500);
        Due.each("all have", what -> x.leastSlack(0, what), 0, 0);
        TideWords y = everyThird();
        Due.each("two letters need two steps: the levels differ by 13 in two of three", what -> y.leastSlack(0, what), 13, 1);
        TideWords z = everyThird();
        z.undo();
        z.gate(0, 0, 5, 1);
        Given.bring(z, 0, "aaaaaa,bbbbbb,cccccc,dddddd,eeeeee,ffffff");
        Given.bring(z, 0, "gggggg,hhhhhh,iiiiii,jjjjjj,kkkkkk");
        Due.each("67 of 200 steps for 66 letters", what -> z.leastSlack(0, what), 0, 11);
        Given.bring(z, 0, "llllll");
        Due.each("67 of 200 steps for 72 letters", what -> z.leastSlack(0, what), 13, 12);
    }

    private static void leastSlack200() {
        TideWords x = Given.seldom(1570);
        for (int gate = 1; gate < 4; gate++) {
            x.shut(gate, true);
        }
        Given.bring(x, 0, "a");
        Due.each("the steps 1570 to 1769: 6 in the step 1710", what -> x.leastSlack(0, what), 6, 1);
        x.run(1);
        Due.each("the steps 1571 to 1770", what -> x.leastSlack(0, what), 0, 1);
        x.gauge(1, 3);
        Due.each("3 in the last of them", what -> x.leastSlack(0, what), 3, 1);
        Given.run(x, 199);
        Due.each("3 in the first of 1770 to 1969", what -> x.leastSlack(0, what), 3, 1);
        x.shut(0, true);
        Due.each("shut by hand", what -> x.leastSlack(0, what), 0, 0);
    }

    private static void leastSlackErrors() {
        TideWords x = Given.busy();
        Due.says("Promise 17", "Returns the number; NO_SUCH if there is no such gate;");
        Due.refused("leastSlack(.., 0)", gate -> x.leastSlack(gate, 0), 0, 3, TideWords.NO_SUCH);
        Due.says("Promise 17", "BAD_VALUE if what is neither 0 nor 1.");
        Due.refused("leastSlack(3, ..)", what -> x.leastSlack(3, what), 0, 1, TideWords.BAD_VALUE);
    }

    private static void bestLie() {
        Due.says("Promise 18", "Finds the lie of the gauge of a store by which a gate is open");
        TideWords x = Given.levels(100, 155);
        Due.due("the greatest lie", x.bestLie(0, 3), 50);
        Due.due("the least lie", x.bestLie(1, 3), -50);
        x.gate(3, 1, 6, 0);
        Due.due("one less", x.bestLie(0, 3), 49);
        Due.due("one more", x.bestLie(1, 3), -49);
        x.gate(3, 1, 4, 0);
        Due.due("out of reach: 0 steps with each lie", x.bestLie(0, 3), 0);
        Due.due("out of reach", x.bestLie(1, 3), 0);
        x.gauge(0, 1);
        Due.due("the lie of the other store counts", x.bestLie(1, 3), -50);
        Due.due("its own does not", x.bestLie(0, 3), 0);
        Due.due("another gate", x.bestLie(0, 2), 50);
    }

    private static void bestLieShut() {
        Due.says("Promise 18", "(if it was not shut by hand)");
        TideWords x = Given.levels(100, 120);
        x.shut(2, true);
        Due.due("shut by hand", x.bestLie(0, 2), 15);
        Due.due("not shut", x.bestLie(0, 0), 15);
    }

    /** The levels 40, 44 .. 160 and back, in 60 steps, and 40 in the other store. */
    private static void bestLie200() {
        Due.says("Promise 18", "in the most of the next 200 steps;");
        TideWords x = new TideWords();
        x.tide(0, 100, 60, 60);
        x.tide(1, 40, 0, 2);
        x.gate(0, 0, 0, 0);
        Due.due("the steps 0 to 199: each of -4 to -48 in 7 of them", x.bestLie(0, 0), -4);
        x.run(39);
        Due.due("the steps 39 to 238: -8 is the level of 238", x.bestLie(0, 0), -8);
        x.run(1);
        Due.due("the steps 40 to 239: -4 is the level of 239", x.bestLie(0, 0), -4);
        x.run(21);
        Due.due("the steps 61 to 260: -4 is the level of 61", x.bestLie(0, 0), -4);
        x.run(1);
        Due.due("the steps 62 to 261: -8 is the level of 62", x.bestLie(0, 0), -8);
    }

    private static void bestLieNearest() {
        Due.says("Promise 18", "of several the one that is the nearest to 0,");
        TideWords x = Given.levels(100, 110);
        Due.due("5 to 15", x.bestLie(0, 0), 5);
        Due.due("-15 to -5", x.bestLie(1, 0), -5);
        x.gate(0, 0, 10, 0);
        Due.due("0 to 20", x.bestLie(0, 0), 0);
        x.gate(0, 0, 9, 0);
        Due.due("1 to 19", x.bestLie(0, 0), 1);
        Due.due("-19 to -1", x.bestLie(1, 0), -1);
        x.gauge(0, 18);
        Due.due("1 to 19, whatever it is now", x.bestLie(0, 0), 1);
        x.gauge(0, 0);
        x.gauge(1, -18);
        Due.due("-19 to -1, whatever it is now", x.bestLie(1, 0), -1);
        Due.says("Promise 18", "of both as near the one below 0.");
        TideWords y = new TideWords();
        y.tide(0, 100, 10, 2);
        y.tide(1, 100, 0, 2);
        y.gate(0, 0, 9, 0);
        Due.due("90 and 110 by turns: -1 or 1", y.bestLie(0, 0), -1);
        Due.due("90 and 110 by turns: -1 or 1", y.bestLie(1, 0), -1);
        y.tide(0, 100, 50, 2);
        y.gate(0, 0, 0, 0);
        Due.due("50 and 150 by turns: -50 or 50", y.bestLie(0, 0), -50);
        y.tide(0, 100, 51, 2);
        Due.due("49 and 151 by turns: out of reach", y.bestLie(0, 0), 0);
    }

    private static void bestLieErrors() {
        Due.says("Promise 18", "Returns the lie; NO_SUCH if there is no such store or gate.");
        TideWords x = Given.busy();
        Due.refused("bestLie(.., 0)", store -> x.bestLie(store, 0), 0, 1, TideWords.NO_SUCH);
        Due.refused("bestLie(1, ..)", gate -> x.bestLie(1, gate), 0, 3, TideWords.NO_SUCH);
        Due.due("neither", x.bestLie(2, 4), TideWords.NO_SUCH);
    }

    /** Only run() stops at the step 99999; the gates are open in the step 100890 next. */
    private static void beyondTheLastStep() {
        TideWords x = Given.seldom(99999);
        Given.bring(x, 0, "a");
        Due.due("untilOpen(0)", x.untilOpen(0), 891);
        Due.due("openFor(0)", x.openFor(0), 1);
        Due.due("untilPassed(0)", x.untilPassed(0), 892);
        Due.due("ifRun(891, 0)", x.ifRun(891, 0), 0);
        Due.due("ifRun(892, 0)", x.ifRun(892, 0), 1);
        Due.due("ifRun(1000, 3)", x.ifRun(1000, 3), 999);
    }
}
