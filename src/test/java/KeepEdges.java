/** The edges of the promises 22 to 24. */
final class KeepEdges {
    private KeepEdges() {
    }

    static void all() {
        savingIsNoChange();
        undo();
        undoLeavesOut();
        historyOfSix();
        eachChangeIsRecorded();
        evenIfNothingIsDifferent();
        refusedOnesAreNotRecorded();
        oldestIsDropped();
        undoReturns();
        undoOfNothing();
        save();
        saveOverwrites();
        saveSlots();
        restore();
        restoreOfAnotherWord();
        restoreKeeps();
        restoreIsAChange();
        restoreSlots();
        restoreOfNothing();
    }

    private static void savingIsNoChange() {
        Due.says("Texts", "Ahead of the calls `undo`, `save`, `restore` the interface says: ---- undo, saving.");
        TideWords x = new TideWords();
        x.run(1);
        x.save(0);
        x.undo();
        Due.due("the run was the latest change", x.count(0), 0);
        x.save(1);
        Due.due("undo() and save() are no changes", x.count(10), 0);
        Due.due("restore() is one", x.restore(0) + x.count(10), 2);
    }

    private static void undo() {
        Due.says("Promise 22", "Undoes the latest change: everything except the pad, the slots and the history is as it was before it.");
        TideWords x = Given.steady();
        Given.bring(x, 0, "abc,d");
        Given.bring(x, 1, "ef");
        x.run(2);
        x.gauge(0, 50);
        x.run(3);
        Due.each("behind the latest change", x::count, 5, 3, 2, 1, 0, 5, 2, 0, 3);
        x.undo();
        Due.each("ahead of it", x::count, 2, 3, 2, 0, 1, 5, 0, 0, 0);
        Due.due("its times back", x.word(0, 6), 0);
        Due.due("the word in the gate", x.gateOf(0, 5), 0);
        Due.due("its letters", x.gateOf(0, 6), 2);
        x.undo();
        Due.due("the lie", x.store(0, 3), 0);
        x.undo();
        Due.each("ahead of the other one", x::count, 0, 3, 0, 3, 0, 0, 0, 15, 0);
        Due.each("the row 0", place -> x.at(0, place), 0, 1, TideWords.NO_SUCH);
        Due.each("the row 1", place -> x.at(1, place), 2, TideWords.NO_SUCH);
        Due.each("words that passed by the gates", gate -> x.gateOf(gate, 7), 0, 0, 0, 0);
        Due.each("steps in which they passed", word -> x.word(word, 4), TideWords.NONE, TideWords.NONE, TideWords.NONE);
        Due.each("gates by which they passed", word -> x.word(word, 5), TideWords.NONE, TideWords.NONE, TideWords.NONE);
        x.undo();
        Due.due("the word 2 is not there", x.word(2, 0), TideWords.NO_SUCH);
        Due.each("the row 1", place -> x.at(1, place), TideWords.NO_SUCH);
    }

    private static void undoLeavesOut() {
        TideWords x = new TideWords();
        Given.bring(x, 0, "ab");
        x.save(0);
        Given.type(x, "cd,");
        x.run(1);
        x.save(1);
        x.undo();
        Due.due("the pad", x.count(9), 3);
        Due.due("its text", x.fault(), 3);
        x.undo();
        Due.due("the pad that put() emptied is not filled again", x.count(9), 3);
        Due.due("no words", x.count(1), 0);
        Due.due("the slot 1", x.restore(1), 1);
        Due.due("its word", x.gateOf(0, 6), 1);
        Due.due("the slot 0", x.restore(0), 0);
        Due.due("its word", x.store(0, 7), 2);
    }

    private static void historyOfSix() {
        Due.says("Promise 22", "A history of at most 6 states is kept:");
        TideWords x = new TideWords();
        for (int steps = 1; steps <= 6; steps++) {
            x.run(1);
            Due.due("count(10)", x.count(10), steps);
        }
        x.run(1);
        Due.due("count(10)", x.count(10), 6);
        for (int steps = 6; steps >= 1; steps--) {
            Due.due("undo()", x.undo(), steps - 1);
            Due.due("steps", x.count(0), steps);
        }
        Due.due("the first one is not kept", x.undo(), TideWords.NOT_POSSIBLE);
        Due.due("steps", x.count(0), 1);
    }

    private static void eachChangeIsRecorded() {
        Due.says("Promise 22", "each method that is a change, and returns no error, records the state before it");
        TideWords x = new TideWords();
        x.save(1);
        x.write('a');
        x.tide(0, 100, 0, 2);
        Due.due("tide", x.count(10), 1);
        x.gauge(0, 1);
        Due.due("gauge", x.count(10), 2);
        x.gate(0, 1, 5, 0);
        Due.due("gate", x.count(10), 3);
        x.shut(1, true);
        Due.due("shut", x.count(10), 4);
        x.put(0);
        Due.due("put", x.count(10), 5);
        x.run(1);
        Due.due("run", x.count(10), 6);
        x.undo();
        x.undo();
        x.restore(1);
        Due.due("restore", x.count(10), 5);
        x.save(0);
        x.write('b');
        x.fault();
        x.wipe();
        x.ifRun(9, 0);
        Due.due("others are no changes", x.count(10), 5);
        Due.due("undo of restore", x.undo(), 4);
        Due.due("the gate 1 is shut", x.gateOf(1, 3), 1);
        Due.due("undo of shut", x.undo(), 3);
        Due.due("the gate 1 is not", x.gateOf(1, 3), 0);
        Due.due("undo of gate", x.undo(), 2);
        Due.due("its side", x.gateOf(0, 0), 0);
        Due.due("undo of gauge", x.undo(), 1);
        Due.due("the lie", x.store(0, 3), 0);
        Due.due("undo of tide", x.undo(), 0);
        Due.due("the period", x.store(0, 2), 24);
    }

    private static void evenIfNothingIsDifferent() {
        Due.says("Promise 22", "(also if nothing is different then);");
        TideWords x = new TideWords();
        x.save(0);
        x.tide(1, 100, 30, 20);
        Due.due("tide", x.count(10), 1);
        x.gauge(1, 0);
        Due.due("gauge", x.count(10), 2);
        x.gate(1, 1, 5, 0);
        Due.due("gate", x.count(10), 3);
        x.restore(0);
        Due.due("restore", x.count(10), 4);
        Due.each("undo", any -> x.undo(), 3, 2, 1, 0, TideWords.NOT_POSSIBLE);
    }

    private static void refusedOnesAreNotRecorded() {
        TideWords x = new TideWords();
        x.run(1);
        x.tide(2, 0, 0, 2);
        x.gauge(0, 51);
        x.gate(0, 0, 100, 0);
        x.shut(0, false);
        x.put(0);
        x.run(501);
        x.restore(0);
        Due.due("count(10)", x.count(10), 1);
        Due.due("undo()", x.undo(), 0);
        x.undo();
        Due.due("steps", x.count(0), 0);
    }

    private static void oldestIsDropped() {
        Due.says("Promise 22", "when one more is recorded, the oldest one is dropped.");
        TideWords x = new TideWords();
        for (int lie = 1; lie <= 20; lie++) {
            x.gauge(0, lie);
            Due.due("count(10)", x.count(10), Math.min(lie, 6));
        }
        Due.each("undo", any -> x.undo(), 5, 4, 3);
        Due.due("the lie", x.store(0, 3), 17);
        for (int lie = 30; lie <= 34; lie++) {
            x.gauge(0, lie);
        }
        Due.due("full again", x.count(10), 6);
        int[] lies = {33, 32, 31, 30, 17, 16};
        for (int lie : lies) {
            x.undo();
            Due.due("the lie", x.store(0, 3), lie);
        }
        Due.due("the others are dropped", x.undo(), TideWords.NOT_POSSIBLE);
        Due.due("the lie", x.store(0, 3), 16);
    }

    private static void undoReturns() {
        Due.says("Promise 22", "Returns how many changes can be undone then;");
        TideWords x = new TideWords();
        x.run(1);
        Due.due("none", x.undo(), 0);
        x.run(1);
        x.run(1);
        Due.due("one", x.undo(), 1);
        x.run(1);
        Due.due("one again", x.undo(), 1);
        Due.due("none", x.undo(), 0);
    }

    private static void undoOfNothing() {
        Due.says("Promise 22", "NOT_POSSIBLE if there is none.");
        TideWords x = new TideWords();
        Due.due("at first", x.undo(), TideWords.NOT_POSSIBLE);
        x.save(0);
        x.write('a');
        Due.due("behind what is no change", x.undo(), TideWords.NOT_POSSIBLE);
        Due.due("the pad", x.count(9), 1);
        x.run(9);
        x.undo();
        Due.due("an undo cannot be undone", x.undo(), TideWords.NOT_POSSIBLE);
        Due.due("steps", x.count(0), 0);
    }

    private static void save() {
        Due.says("Promise 23", "Saves everything except the pad, the history and the slots in a slot,");
        TideWords x = Given.steady();
        Given.bring(x, 0, "abc,d");
        x.gate(3, 0, 99, 1);
        x.run(2);
        x.shut(1, true);
        Given.type(x, "xyz");
        x.save(0);
        x.wipe();
        x.undo();
        x.undo();
        x.undo();
        x.undo();
        x.tide(0, 1, 1, 3);
        x.gauge(1, 9);
        x.save(1);
        Due.due("restore(0)", x.restore(0), 2);
        Due.each("everything", x::count, 2, 2, 1, 0, 1, 3, 0, 13, 0, 0, 5);
        Due.each("the store 0", what -> x.store(0, what), 100, 0, 2, 0, 100, 100, 0, 0, 0);
        Due.each("the gate 3", what -> x.gateOf(3, what), 0, 99, 1, 0, 1, TideWords.NONE, 0, 0, 0);
        Due.each("the gate 0", what -> x.gateOf(0, what), 0, 5, 0, 0, 1, 0, 2, 0, 0);
        Due.each("the word 1", what -> x.word(1, what), 1, 0, 1, 1, 0, 2, 0, 'd', TideWords.NONE);
        Due.due("the other slot is not saved in it", x.restore(1), 0);
        Due.due("its lie", x.store(1, 3), 9);
    }

    private static void saveOverwrites() {
        Due.says("Promise 23", "and overwrites what was saved there.");
        TideWords x = new TideWords();
        x.save(0);
        x.run(1);
        x.save(1);
        x.run(1);
        x.save(0);
        x.run(1);
        Due.due("the slot 0", x.restore(0), 2);
        Due.due("the slot 1", x.restore(1), 1);
        x.save(0);
        Due.due("the slot 0", x.restore(0), 1);
    }

    private static void saveSlots() {
        TideWords x = new TideWords();
        Due.says("Promise 23", "`slot`: 0 or 1");
        Due.due("save(0)", x.save(0), 0);
        x.run(500);
        Due.says("Promise 23", "Returns the steps;");
        Due.due("save(1)", x.save(1), 500);
        Due.says("Promise 23", "BAD_VALUE if there is no such slot.");
        Due.refused("save", x::save, 0, 1, TideWords.BAD_VALUE);
        x.run(1);
        Due.refused("save", x::save, 0, 1, TideWords.BAD_VALUE);
        Due.due("the slot 0", x.restore(0), 0);
        Due.due("the slot 1", x.restore(1), 500);
        TideWords late = new TideWords();
        Given.run(late, 99999);
        Due.due("at the last step", late.save(0), 99999);
    }

    private static void restore() {
        Due.says("Promise 24", "Restores what was saved last in a slot,");
        TideWords x = new TideWords();
        Given.bring(x, 0, "ab");
        x.save(1);
        Given.bring(x, 0, "cd");
        x.save(1);
        Given.bring(x, 1, "ef");
        x.write('g');
        x.restore(1);
        Due.due("words", x.count(1), 2);
        Due.due("the pad is left", x.count(9), 1);
        Due.due("the word that was not there is not there", x.word(2, 0), TideWords.NO_SUCH);
        Due.due("a new one", x.put(1), 3);
        Due.each("it has its own letters", place -> x.word(2, 7 + place), 'g', TideWords.NONE);
        Due.due("and is not passed", x.word(2, 3), 0);
    }

    private static void restoreOfAnotherWord() {
        TideWords x = Given.steady();
        Given.bring(x, 0, "ab");
        x.shut(0, true);
        x.run(2);
        x.save(0);
        x.undo();
        x.undo();
        x.undo();
        Given.bring(x, 1, "cde");
        x.run(3);
        x.restore(0);
        Due.each("the word that was saved", what -> x.word(0, what), 1, 0, 2, 1, 1, 2, 0, 'a', 'b', TideWords.NONE);
        x.undo();
        Due.each("the word that came instead", what -> x.word(0, what), 0, 0, 3, 1, 2, 1, 0, 'c', 'd', 'e', TideWords.NONE);
    }

    private static void restoreKeeps() {
        Due.says("Promise 24", "which keeps it.");
        TideWords x = new TideWords();
        x.run(3);
        x.save(0);
        for (int times = 0; times < 3; times++) {
            x.run(1 + times);
            x.gauge(0, 10 + times);
            Due.due("restore(0)", x.restore(0), 3);
            Due.due("the lie", x.store(0, 3), 0);
        }
        x.undo();
        Due.due("undone", x.count(0), 6);
        Due.due("and restored again", x.restore(0), 3);
    }

    private static void restoreIsAChange() {
        Due.says("Promise 24", "This is a change.");
        TideWords x = new TideWords();
        x.save(0);
        x.run(7);
        x.restore(0);
        Due.due("count(10)", x.count(10), 2);
        Due.due("undo()", x.undo(), 1);
        Due.due("steps", x.count(0), 7);
        Due.due("the history is not saved: undo()", x.undo(), 0);
        Due.due("steps", x.count(0), 0);
        for (int i = 0; i < 9; i++) {
            x.restore(0);
        }
        Due.due("full", x.count(10), 6);
    }

    private static void restoreSlots() {
        TideWords x = new TideWords();
        x.save(0);
        x.run(1);
        x.save(1);
        x.run(1);
        Due.says("Promise 24", "Returns the steps then;");
        Due.due("restore(0)", x.restore(0), 0);
        Due.due("restore(1)", x.restore(1), 1);
        Due.says("Promise 24", "`slot`: 0 or 1", "BAD_VALUE if there is no such slot;");
        Due.refused("restore", x::restore, 0, 1, TideWords.BAD_VALUE);
        Due.due("no changes", x.count(10), 4);
        Due.refused("restore", new TideWords()::restore, 0, 1, TideWords.BAD_VALUE);
    }

    private static void restoreOfNothing() {
        Due.says("Promise 24", "NOT_POSSIBLE if nothing was saved in it.");
        TideWords x = new TideWords();
        Due.each("nothing saved", x::restore, TideWords.NOT_POSSIBLE, TideWords.NOT_POSSIBLE);
        x.save(1);
        Due.due("not in this one", x.restore(0), TideWords.NOT_POSSIBLE);
        Due.due("in this one", x.restore(1), 0);
        TideWords y = new TideWords();
        y.save(0);
        Due.due("not in this one", y.restore(1), TideWords.NOT_POSSIBLE);
        y.run(1);
        y.undo();
        Due.due("undo leaves what was saved", y.restore(0), 0);
    }
}
