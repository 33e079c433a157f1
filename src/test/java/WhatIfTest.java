/** Promises 13 to 18: untilOpen, openFor, untilPassed, ifRun, leastSlack and bestLie. */
public final class WhatIfTest {
    public static void main(String[] args) {
        untilOpen();
        openFor();
        untilPassed();
        untilPassedAtTheEdge();
        ifRun();
        leastSlack();
        leastSlackAtTheEdge();
        bestLie();
        bestLieOfMany();
        nothingChanges();
        Due.finish();
    }

    /** The levels 70 + 5 * p of 24 and 70 + 6 * p of 20: at 6 they differ by 6, at 11 by 1, at 12 by 12. */
    private static void untilOpen() {
        TideWords x = new TideWords();
        Due.due("untilOpen(0) at 0", x.untilOpen(0), 0);
        x.run(5);
        Due.due("untilOpen(0) at 5", x.untilOpen(0), 0);
        x.run(1);
        Due.due("untilOpen(0) at 6", x.untilOpen(0), 5);
        x.gate(0, 0, 6, 0);
        Due.due("untilOpen(0) at 6 with the slack 6", x.untilOpen(0), 0);
        Due.due("untilOpen(3) at 6", x.untilOpen(3), 5);
        x.gauge(1, -6);
        Due.due("untilOpen(3) at 6 with a lie", x.untilOpen(3), 0);
        x.shut(3, true);
        Due.due("untilOpen(3), shut by hand", x.untilOpen(3), TideWords.NONE);
        Due.due("untilOpen(4)", x.untilOpen(4), TideWords.NO_SUCH);
        Due.due("untilOpen(-1)", x.untilOpen(-1), TideWords.NO_SUCH);
        TideWords far = new TideWords();
        far.tide(0, 100, 100, 60);
        far.tide(1, 300, 94, 58);
        Due.due("the levels never meet", far.untilOpen(0), TideWords.NONE);
        far.gate(0, 0, 1, 0);
        far.tide(1, 299, 100, 58);
        Due.due("at the top of one and the bottom of the other: 30 and 29 * even", far.untilOpen(0), 870);
        Due.due("openFor(0) then", far.openFor(0), 1);
    }

    private static void openFor() {
        TideWords x = new TideWords();
        Due.due("openFor(0) at 0", x.openFor(0), 6);
        x.run(2);
        Due.due("openFor(0) at 2", x.openFor(0), 4);
        x.run(4);
        Due.due("openFor(0) at 6", x.openFor(0), 1);
        x.shut(0, true);
        Due.due("openFor(0), shut by hand", x.openFor(0), TideWords.NONE);
        Due.due("openFor(4)", x.openFor(4), TideWords.NO_SUCH);
        Due.due("openFor(-1)", x.openFor(-1), TideWords.NO_SUCH);
        Due.due("open for ever", Given.levels(100, 105).openFor(2), 4000);
        Due.due("never open", Given.levels(100, 106).openFor(2), TideWords.NONE);
    }

    private static void untilPassed() {
        TideWords x = Given.levels(100, 100);
        Given.bring(x, 0, "abcdef,gh,i");
        Due.due("untilPassed(0)", x.untilPassed(0), 6);
        Due.due("untilPassed(1)", x.untilPassed(1), 2);
        Due.due("untilPassed(2) waits for the gate 2", x.untilPassed(2), 3);
        x.run(2);
        Due.due("untilPassed(0) two steps on", x.untilPassed(0), 4);
        Due.due("untilPassed(1), passed", x.untilPassed(1), 0);
        x.shut(0, true);
        x.shut(2, true);
        Due.due("untilPassed(0), shut", x.untilPassed(0), TideWords.NONE);
        Due.due("untilPassed(1), shut and passed", x.untilPassed(1), 0);
        Due.due("untilPassed(3)", x.untilPassed(3), TideWords.NO_SUCH);
        Due.due("untilPassed(-1)", x.untilPassed(-1), TideWords.NO_SUCH);
    }

    /** A gate that opens at 870 and 870 + 1740 alone, and holds its word between: the second letter passes in 2610. */
    private static void untilPassedAtTheEdge() {
        TideWords x = new TideWords();
        x.tide(0, 100, 100, 60);
        x.tide(1, 299, 100, 58);
        x.gate(0, 0, 1, 1);
        Given.bring(x, 0, "ab");
        Due.due("too far", x.untilPassed(0), TideWords.NONE);
        x.run(500);
        x.run(500);
        Due.due("one letter", x.gateOf(0, 6), 1);
        x.run(500);
        x.run(110);
        Due.due("in the step 2610, from 1610 on: 1001 steps", x.untilPassed(0), TideWords.NONE);
        Due.due("ifRun(1000, 0)", x.ifRun(1000, 0), 0);
        x.run(1);
        Due.due("from 1611 on: 1000 steps", x.untilPassed(0), 1000);
        Due.due("ifRun(1000, 0)", x.ifRun(1000, 0), 1);
        Due.due("ifRun(999, 0)", x.ifRun(999, 0), 0);
        Due.due("ifRun(1000, 3)", x.ifRun(1000, 3), 999);
    }

    private static void ifRun() {
        TideWords x = Given.levels(100, 100);
        Given.bring(x, 0, "abc,de,fghi");
        Due.due("ifRun(1, 0)", x.ifRun(1, 0), 0);
        Due.due("ifRun(2, 0)", x.ifRun(2, 0), 1);
        Due.due("ifRun(3, 0)", x.ifRun(3, 0), 2);
        Due.due("ifRun(1000, 0)", x.ifRun(1000, 0), 3);
        Due.due("ifRun(1000, 3)", x.ifRun(1000, 3), 0);
        x.run(2);
        x.shut(0, true);
        Due.due("abc goes back with two letters, and fghi is not in yet", x.ifRun(1, 1), 2);
        x.shut(2, true);
        Due.due("letters in vain", x.ifRun(9, 1), 2);
        Due.due("words that go back", x.ifRun(9, 2), 1);
        Due.due("the gates 1 and 3 are open", x.ifRun(9, 3), 0);
        x.shut(1, true);
        x.shut(3, true);
        Due.due("none is open", x.ifRun(9, 3), 9);
        x.run(9);
        Due.due("what is past does not count: 1", x.ifRun(9, 1), 0);
        Due.due("what is past does not count: 2", x.ifRun(9, 2), 0);
        int[][] bad = {{0, 0}, {-1, 0}, {1001, 0}, {1, -1}, {1, 4}};
        for (int[] b : bad) {
            Due.due("ifRun(" + b[0] + ", " + b[1] + ")", x.ifRun(b[0], b[1]), TideWords.BAD_VALUE);
        }
        TideWords again = new TideWords();
        again.tide(0, 110, 10, 3);
        again.tide(1, 100, 0, 2);
        again.shut(2, true);
        Given.bring(again, 0, "ab");
        Due.due("open in every third step, and back in the next: each time counted", again.ifRun(9, 2), 3);
        Due.due("and each time a letter in vain", again.ifRun(9, 1), 3);
        Due.due("steps in which none is open", again.ifRun(9, 3), 6);
    }

    private static void leastSlack() {
        TideWords x = Given.levels(107, 100);
        Given.bring(x, 0, "ab");
        Due.due("leastSlack(0, 0)", x.leastSlack(0, 0), 7);
        Due.due("leastSlack(0, 1)", x.leastSlack(0, 1), 1);
        Due.due("leastSlack(2, 0)", x.leastSlack(2, 0), 7);
        Due.due("none for the gate 1", x.leastSlack(1, 0), 0);
        Due.due("none for the gate 1", x.leastSlack(1, 1), 0);
        x.gate(2, 0, 50, 0);
        Due.due("passes without the gate 0", x.leastSlack(0, 0), 0);
        Due.due("passes without the gate 0", x.leastSlack(0, 1), 1);
        x.gate(2, 0, 0, 0);
        x.shut(0, true);
        Due.due("shut by hand", x.leastSlack(0, 0), 0);
        Due.due("shut by hand", x.leastSlack(0, 1), 0);
        Due.due("leastSlack(4, 2)", x.leastSlack(4, 2), TideWords.NO_SUCH);
        Due.due("leastSlack(-1, 0)", x.leastSlack(-1, 0), TideWords.NO_SUCH);
        Due.due("leastSlack(0, 2)", x.leastSlack(0, 2), TideWords.BAD_VALUE);
        Due.due("leastSlack(0, -1)", x.leastSlack(0, -1), TideWords.BAD_VALUE);
        TideWords near = Given.levels(101, 100);
        Given.bring(near, 0, "ab");
        near.shut(2, true);
        Due.due("the gap 1", near.leastSlack(0, 0), 1);
        near.gauge(1, 1);
        Due.due("the gap 0", near.leastSlack(0, 0), 0);
        Due.due("the gap 0", near.leastSlack(0, 1), 1);
        TideWords wide = Given.levels(199, 100);
        Given.bring(wide, 0, "ab");
        Due.due("the gap 99", wide.leastSlack(0, 0), 99);
        wide.gauge(0, 1);
        Due.due("the gap 100", wide.leastSlack(0, 0), 0);
        Due.due("the gap 100", wide.leastSlack(0, 1), 0);
    }

    /** Levels that agree in every 60th step, and differ by 4 more in each step from there, up to the 30th. */
    private static TideWords seldom(int step) {
        TideWords x = new TideWords();
        x.tide(0, 100, 60, 60);
        x.tide(1, 40, 0, 2);
        x.gate(0, 0, 0, 1);
        x.shut(1, true);
        x.shut(2, true);
        x.shut(3, true);
        x.run(step);
        return x;
    }

    /** Four letters need the slack 0 if four of the 200 steps are 60th ones. */
    private static void leastSlackAtTheEdge() {
        int[] steps = {40, 41, 59, 60, 61, 99, 100, 101};
        int[] least = {4, 0, 0, 0, 4, 4, 4, 0};
        for (int i = 0; i < steps.length; i++) {
            TideWords x = seldom(steps[i]);
            Given.bring(x, 0, "abcd");
            Due.due("leastSlack(0, 0) at " + steps[i], x.leastSlack(0, 0), least[i]);
            Due.due("leastSlack(0, 1) at " + steps[i], x.leastSlack(0, 1), 1);
        }
    }

    private static void bestLie() {
        TideWords x = Given.levels(120, 100);
        Due.due("bestLie(0, 0): down to 105", x.bestLie(0, 0), -15);
        Due.due("bestLie(1, 0): up to 115", x.bestLie(1, 0), 15);
        x.gauge(0, -18);
        Due.due("bestLie(0, 0): the lie that is told does not matter", x.bestLie(0, 0), -15);
        Due.due("bestLie(1, 0): 102 and 100", x.bestLie(1, 0), 0);
        x.gauge(0, 50);
        Due.due("bestLie(1, 0): 65 is out of reach", x.bestLie(1, 0), 0);
        x.gate(0, 0, 20, 0);
        Due.due("bestLie(1, 0): the last one", x.bestLie(1, 0), 50);
        x.gauge(0, -50);
        x.gate(0, 0, 5, 0);
        Due.due("bestLie(1, 0): down to 75", x.bestLie(1, 0), -25);
        x.shut(0, true);
        Due.due("bestLie(1, 0): shut by hand", x.bestLie(1, 0), -25);
        Due.due("bestLie(2, 0)", x.bestLie(2, 0), TideWords.NO_SUCH);
        Due.due("bestLie(-1, 0)", x.bestLie(-1, 0), TideWords.NO_SUCH);
        Due.due("bestLie(0, 4)", x.bestLie(0, 4), TideWords.NO_SUCH);
        Due.due("bestLie(0, -1)", x.bestLie(0, -1), TideWords.NO_SUCH);
        TideWords lowest = Given.levels(150, 100);
        lowest.gate(1, 1, 0, 0);
        Due.due("bestLie(0, 1): the first one", lowest.bestLie(0, 1), -50);
    }

    private static void bestLieOfMany() {
        TideWords x = Given.levels(100, 100);
        x.tide(0, 100, 10, 2);
        Due.due("90 and 110 by turns, with the slack 5: both as near", x.bestLie(0, 0), -5);
        Due.due("for the other store", x.bestLie(1, 0), -5);
        x.gate(0, 0, 9, 0);
        Due.due("with the slack 9", x.bestLie(0, 0), -1);
        x.gate(0, 0, 10, 0);
        Due.due("with the slack 10, in all steps", x.bestLie(0, 0), 0);
        x.gate(0, 0, 0, 0);
        x.tide(0, 120, 20, 3);
        Due.due("100, 126, 126: two of three", x.bestLie(0, 0), -26);
        // 200 steps are three periods and 20 steps, which say which lie is open once more than the others.
        int[] steps = {1, 2, 10, 25, 39, 40, 41, 50, 60, 61, 62};
        int[] best = {-4, -8, -40, -4, -8, -4, -4, -4, -4, -4, -8};
        for (int i = 0; i < steps.length; i++) {
            Due.due("bestLie(0, 0) at " + steps[i], seldom(steps[i]).bestLie(0, 0), best[i]);
            Due.due("bestLie(1, 0) at " + steps[i], seldom(steps[i]).bestLie(1, 0), -best[i]);
        }
    }

    private static void nothingChanges() {
        TideWords x = new TideWords();
        Given.bring(x, 0, "abc,de");
        x.run(4);
        x.untilOpen(0);
        x.openFor(1);
        x.untilPassed(0);
        x.ifRun(77, 1);
        x.leastSlack(0, 0);
        x.bestLie(0, 0);
        Due.due("steps", x.count(0), 4);
        Due.due("history", x.count(10), 2);
        Due.due("slack", x.gateOf(0, 1), 5);
        Due.due("lie", x.store(0, 3), 0);
        Due.due("letters", x.count(5), 5);
    }
}
