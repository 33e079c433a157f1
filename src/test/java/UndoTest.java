/** Promises 22 to 24: undo, save and restore. */
public final class UndoTest {
    public static void main(String[] args) {
        undoOfEach();
        onlySix();
        sameAgain();
        thePadIsLeft();
        saveAndRestore();
        undoOfRestore();
        errors();
        undoOfWords();
        Due.finish();
    }

    private static void undoOfEach() {
        TideWords x = new TideWords();
        x.tide(0, 50, 10, 7);
        x.gauge(1, 9);
        x.gate(2, 1, 44, 1);
        x.shut(3, true);
        Given.bring(x, 0, "abc,de");
        x.run(3);
        Due.due("history", x.count(10), 6);
        Due.due("undo of run", x.undo(), 5);
        Due.due("steps", x.count(0), 0);
        Due.due("undo of put", x.undo(), 4);
        Due.due("words", x.count(1), 0);
        Due.due("row", x.store(0, 6), 0);
        Due.due("undo of shut", x.undo(), 3);
        Due.due("shut", x.gateOf(3, 3), 0);
        Due.due("undo of gate", x.undo(), 2);
        Due.due("side", x.gateOf(2, 0), 0);
        Due.due("slack", x.gateOf(2, 1), 5);
        Due.due("way", x.gateOf(2, 2), 0);
        Due.due("undo of gauge", x.undo(), 1);
        Due.due("lie", x.store(1, 3), 0);
        Due.due("mean", x.store(0, 0), 50);
        Due.due("undo of tide", x.undo(), 0);
        Due.due("mean", x.store(0, 0), 100);
        Due.due("swing", x.store(0, 1), 30);
        Due.due("period", x.store(0, 2), 24);
        Due.due("no more", x.undo(), TideWords.NOT_POSSIBLE);
    }

    private static void onlySix() {
        TideWords x = new TideWords();
        for (int lie = 1; lie <= 10; lie++) {
            x.gauge(0, lie);
            Due.due("history", x.count(10), Math.min(lie, 6));
        }
        for (int left = 5; left >= 0; left--) {
            Due.due("undo()", x.undo(), left);
            Due.due("lie", x.store(0, 3), left + 4);
        }
        Due.due("no more", x.undo(), TideWords.NOT_POSSIBLE);
        Due.due("lie", x.store(0, 3), 4);
        x.gauge(0, 33);
        Due.due("one more again", x.undo(), 0);
        Due.due("lie", x.store(0, 3), 4);
    }

    private static void sameAgain() {
        TideWords x = new TideWords();
        x.gauge(0, 3);
        x.gauge(0, 3);
        x.tide(0, 100, 30, 24);
        x.gate(0, 0, 5, 0);
        Due.due("recorded, though nothing is different", x.count(10), 4);
        x.undo();
        x.undo();
        x.undo();
        Due.due("lie", x.store(0, 3), 3);
        x.undo();
        Due.due("lie", x.store(0, 3), 0);
    }

    private static void thePadIsLeft() {
        TideWords x = new TideWords();
        Given.bring(x, 0, "ab");
        Given.type(x, "cde");
        Due.due("undo()", x.undo(), 0);
        Due.due("pad", x.count(9), 3);
        Due.due("words", x.count(1), 0);
        x.save(0);
        x.wipe();
        x.restore(0);
        Due.due("pad", x.count(9), 0);
        Given.bring(x, 0, "ab");
        x.undo();
        Due.due("put's text does not come back", x.count(9), 0);
        Due.due("put of the empty pad", x.put(0), TideWords.BAD_TEXT);
    }

    private static void saveAndRestore() {
        TideWords x = Given.steady();
        Given.bring(x, 0, "abc,def");
        x.run(2);
        Due.due("save(1)", x.save(1), 2);
        int history = x.count(10);
        x.gauge(0, 50);
        x.run(7);
        Due.due("save(0)", x.save(0), 9);
        Due.due("save is no change", x.count(10), history + 2);
        Due.due("restore(1)", x.restore(1), 2);
        Due.due("lie", x.store(0, 3), 0);
        Due.due("letters", x.count(5), 4);
        Due.due("in the gate 0", x.gateOf(0, 5), 0);
        Due.due("letters of it", x.gateOf(0, 6), 2);
        Due.due("it goes on", x.run(1), 2);
        Due.due("restore(0)", x.restore(0), 9);
        Due.due("lie", x.store(0, 3), 50);
        Due.due("back", x.word(0, 6), 1);
        Due.due("idle steps", x.count(8), 7);
        Due.due("restore(1), which was kept", x.restore(1), 2);
        Due.due("idle steps", x.count(8), 0);
        x.run(30);
        Due.due("overwritten", x.save(1), 32);
        x.run(1);
        Due.due("restore(1)", x.restore(1), 32);
    }

    private static void undoOfRestore() {
        TideWords x = new TideWords();
        x.save(0);
        x.run(5);
        Due.due("restore(0)", x.restore(0), 0);
        Due.due("a change", x.count(10), 2);
        Due.due("undo of restore", x.undo(), 1);
        Due.due("steps", x.count(0), 5);
        x.undo();
        x.gauge(0, 8);
        x.save(0);
        x.undo();
        Due.due("undo leaves the slots", x.restore(0), 0);
        Due.due("lie", x.store(0, 3), 8);
    }

    private static void errors() {
        TideWords x = new TideWords();
        int[] bad = {-1, 2, Integer.MIN_VALUE, Integer.MAX_VALUE};
        for (int slot : bad) {
            Due.due("save(" + slot + ")", x.save(slot), TideWords.BAD_VALUE);
            Due.due("restore(" + slot + ")", x.restore(slot), TideWords.BAD_VALUE);
        }
        x.save(0);
        Due.due("restore(1), nothing saved", x.restore(1), TideWords.NOT_POSSIBLE);
        Due.due("history", x.count(10), 0);
        Due.due("restore(0)", x.restore(0), 0);
    }

    private static void undoOfWords() {
        TideWords x = Given.steady();
        Given.bring(x, 0, "abcdef,ghi");
        x.run(2);
        x.shut(0, true);
        x.run(1);
        Due.due("back", x.word(0, 6), 1);
        Due.due("passed", x.word(1, 3), 1);
        x.undo();
        Due.due("not back", x.word(0, 6), 0);
        Due.due("not passed", x.word(1, 4), TideWords.NONE);
        Due.due("no gate", x.word(1, 5), TideWords.NONE);
        Due.due("vain", x.count(6), 0);
        Due.due("letters", x.count(5), 4);
        Due.due("in the gate", x.gateOf(2, 5), 1);
        x.undo();
        x.undo();
        x.undo();
        Due.due("no words", x.count(1), 0);
        Given.bring(x, 1, "xy");
        Due.due("a new word 0", x.word(0, 0), 1);
        Due.due("its length", x.word(0, 2), 2);
        Due.due("its letter", x.word(0, 7), 'x');
        Due.due("no third one", x.word(0, 9), TideWords.NONE);
        Due.due("not back", x.word(0, 6), 0);
    }
}
