/** What the document says of the whole in its first sentence, clause by clause. */
final class WholeEdges {
    private WholeEdges() {
    }

    static void all() {
        levelsAgree();
        tidesOfTheirOwn();
        gaugesThatLie();
        nearEnough();
        letterByLetter();
        caught();
        once();
        inVain();
        opensNext();
        whenPassed();
        whatStepsBring();
        leastSlack();
        lieOpenTheMost();
        wordsFromTexts();
        undoAndSaved();
    }

    private static void says(String words) {
        Due.says("What it is", words);
    }

    private static void levelsAgree() {
        says("Tide gates between two stores, open only while their levels agree:");
        TideWords x = new TideWords();
        int[] masks = {15, 15, 15, 15, 15, 15, 0, 0};
        for (int step = 0; step < masks.length; step++) {
            Due.due("the levels differ by " + step, x.store(1, 4) - x.store(0, 4), step);
            Due.due("the gates that are open", x.count(7), masks[step]);
            x.run(1);
        }
    }

    private static void tidesOfTheirOwn() {
        says("two stores whose levels rise and fall by tides of their own,");
        TideWords x = new TideWords();
        x.tide(0, 50, 20, 4);
        x.tide(1, 10, 9, 3);
        int[][] levels = {{30, 1}, {50, 13}, {70, 13}, {50, 1}, {30, 13}, {50, 13}, {70, 1}, {50, 13}};
        for (int[] due : levels) {
            Due.each("the levels in the step " + x.count(0), store -> x.store(store, 4), due);
            x.run(1);
        }
    }

    private static void gaugesThatLie() {
        says("gauges that lie,");
        TideWords x = Given.levels(100, 140);
        x.gauge(1, -35);
        Due.each("the levels", store -> x.store(store, 4), 100, 140);
        Due.each("the told levels", store -> x.store(store, 5), 100, 105);
        Due.due("the gates take their word for it", x.count(7), 15);
    }

    private static void nearEnough() {
        says("gates with slack that are open while the told levels are near enough,");
        TideWords x = Given.levels(100, 112);
        for (int gate = 0; gate < 4; gate++) {
            x.gate(gate, 0, 10 + gate, 0);
        }
        Due.each("the slacks 10 to 13", gate -> x.gateOf(gate, 4), 0, 0, 1, 1);
        x.gauge(1, 1);
        Due.each("one more apart", gate -> x.gateOf(gate, 4), 0, 0, 0, 1);
    }

    private static void letterByLetter() {
        says("words that wait in rows, and pass through a gate letter by letter,");
        TideWords x = Given.steady();
        x.shut(2, true);
        Given.bring(x, 0, "foam,sea");
        int[][] due = {{0, 0, 1, 1, 0}, {0, 0, 2, 2, 0}, {0, 0, 3, 3, 0}, {1, TideWords.NONE, 0, 4, 1}, {0, 1, 1, 5, 1}};
        for (int[] one : due) {
            Due.due("words that pass in the step " + x.count(0), x.run(1), one[0]);
            Due.due("the word in the gate", x.gateOf(0, 5), one[1]);
            Due.due("its letters that were passed", x.gateOf(0, 6), one[2]);
            Due.due("letters in all", x.count(5), one[3]);
            Due.due("words in the other row", x.store(1, 6), one[4]);
        }
    }

    /** Two words with two letters passed each, in the gate 0 that gives them back, and the gate 2 that keeps them; both are closed. */
    private static TideWords twoCaught() {
        TideWords x = Given.steady();
        x.gate(2, 0, 5, 1);
        Given.bring(x, 0, "foam,salt");
        x.run(2);
        x.gauge(1, -6);
        x.run(3);
        return x;
    }

    private static void caught() {
        says("words that are caught in a gate that closes, and go back, or wait there,");
        TideWords x = twoCaught();
        Due.each("where they are", word -> x.word(word, 0), 0, 4);
        Due.each("how often they went back", word -> x.word(word, 6), 1, 0);
        Due.due("the letters of the one that waits", x.gateOf(2, 6), 2);
        x.gauge(1, 0);
        Due.each("behind how many steps they pass", x::untilPassed, 4, 2);
    }

    private static void once() {
        says("words that come to the other store once,");
        TideWords x = Given.steady();
        Given.bring(x, 0, "a,b");
        Given.bring(x, 1, "c");
        Due.due("all pass", x.run(1), 3);
        Due.due("none passes again", x.run(500), 0);
        Due.each("where they are", word -> x.word(word, 0), 1, 1, 0);
        Due.each("when they passed", word -> x.word(word, 4), 0, 0, 0);
        Due.due("letters", x.count(5), 3);
    }

    private static void inVain() {
        says("letters that were passed in vain,");
        TideWords x = twoCaught();
        Due.each("in the gates", gate -> x.gateOf(gate, 8), 2, 0, 0, 0);
        Due.due("in all", x.count(6), 2);
        Due.due("of these letters", x.count(5), 4);
    }

    private static void opensNext() {
        says("when a gate opens next, how long it is open then,");
        TideWords x = new TideWords();
        Due.due("now", x.untilOpen(1), 0);
        Due.due("in the steps 0 to 5", x.openFor(1), 6);
        x.run(6);
        int wait = x.untilOpen(1);
        int open = x.openFor(1);
        Due.isTrue(wait > 0 && open > 0, "closed, and open again later");
        Given.run(x, wait - 1);
        Due.due("ahead of it", x.gateOf(1, 4), 0);
        for (int step = 0; step < open; step++) {
            x.run(1);
            Due.due("so long", x.gateOf(1, 4), 1);
        }
        x.run(1);
        Due.due("no longer", x.gateOf(1, 4), 0);
    }

    private static void whenPassed() {
        says("when a word has passed,");
        TideWords x = Given.steady();
        Given.bring(x, 0, "foam,sea,surf");
        Due.each("behind so many steps", x::untilPassed, 4, 3, 7);
        x.run(7);
        Due.each("they have passed", x::untilPassed, 0, 0, 0);
        Due.each("in these steps", word -> x.word(word, 4), 3, 2, 6);
    }

    /** The gates are open in the steps 0 to 5, 11, 22 and 33: too short for the third word, which goes back each time. */
    private static void whatStepsBring() {
        says("what some steps would bring,");
        TideWords x = new TideWords();
        Given.bring(x, 0, "breeze,tide,ebb");
        int[] due = {x.ifRun(40, 0), x.ifRun(40, 1), x.ifRun(40, 2), x.ifRun(40, 3)};
        Due.each("words that pass, letters in vain, words that go back, steps without an open gate", what -> due[what], 2, 5, 4, 31);
        Due.due("they pass", x.run(40), due[0]);
        Due.due("they are in vain", x.count(6), due[1]);
        Due.due("they go back", x.word(0, 6) + x.word(1, 6) + x.word(2, 6), due[2]);
        Due.due("no gate is open", x.count(8), due[3]);
    }

    private static void leastSlack() {
        says("the least slack with which all words pass,");
        TideWords x = Given.levels(120, 100);
        Given.bring(x, 0, "foam,sea,ebb");
        Due.each("all three", what -> x.leastSlack(2, what), 20, 3);
        x.gate(2, 0, 19, 0);
        Due.due("with one less none passes", x.ifRun(200, 0), 0);
        x.gate(2, 0, 20, 0);
        Due.due("with it all pass", x.ifRun(200, 0), 3);
    }

    private static void lieOpenTheMost() {
        says("the lie by which a gate is open the most,");
        TideWords x = Given.levels(130, 100);
        Due.due("of the store 0", x.bestLie(0, 1), -25);
        Due.due("of the store 1", x.bestLie(1, 1), 25);
        x.gauge(1, 24);
        Due.due("with one less it is closed in 200 steps", x.ifRun(200, 3), 200);
        x.gauge(1, 25);
        Due.due("with it it is open in all", x.ifRun(200, 3), 0);
    }

    private static void wordsFromTexts() {
        says("words that are read from texts,");
        TideWords x = new TideWords();
        Given.type(x, "sea,ebb");
        Due.due("two words", x.put(1), 2);
        Due.each("the letters of the second", letter -> x.word(1, 7 + letter), 'e', 'b', 'b', TideWords.NONE);
    }

    private static void undoAndSaved() {
        says("undo, and saved states.");
        TideWords x = Given.steady();
        Given.bring(x, 0, "sea");
        x.save(1);
        x.run(3);
        Due.due("it has passed", x.word(0, 3), 1);
        x.undo();
        Due.due("undone", x.word(0, 3), 0);
        x.run(2);
        Due.due("the saved state", x.restore(1), 0);
        Due.each("the word waits", what -> x.word(0, what), 0, 0, 3, 0);
    }
}
