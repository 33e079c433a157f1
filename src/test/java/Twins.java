import java.util.ArrayList;
import java.util.List;
import java.util.function.Supplier;
import java.util.function.ToIntFunction;

/** Two objects with the same past, one of which is called once more: whether this has changed anything. */
final class Twins {
    /** What brings to light what an object holds: its history, its slots, its pad, and what it does next. */
    private static final List<ToIntFunction<TideWords>> PROBES = probes();

    private Twins() {
    }

    static void refused(String call, int error, Supplier<TideWords> maker, ToIntFunction<TideWords> act) {
        Due.due(call, act.applyAsInt(maker.get()), error);
        same(call, maker, act);
    }

    static void same(String call, Supplier<TideWords> maker, ToIntFunction<TideWords> act) {
        for (ToIntFunction<TideWords> probe : PROBES) {
            TideWords called = maker.get();
            act.applyAsInt(called);
            List<Integer> with = answers(called, probe);
            List<Integer> without = answers(maker.get(), probe);
            Due.isTrue(with.equals(without), call + " changed something: " + with + ", without it " + without);
        }
    }

    private static List<ToIntFunction<TideWords>> probes() {
        List<ToIntFunction<TideWords>> probes = new ArrayList<>();
        for (int undone = 0; undone <= 6; undone++) {
            int times = undone;
            probes.add(x -> {
                int left = 0;
                for (int i = 0; i < times; i++) {
                    left = x.undo();
                }
                return left;
            });
        }
        probes.add(x -> x.restore(0));
        probes.add(x -> x.restore(1));
        probes.add(x -> x.run(60));
        probes.add(x -> x.write('z') + x.put(1));
        probes.add(x -> x.fault() + x.undo() + x.wipe());
        return probes;
    }

    private static List<Integer> answers(TideWords x, ToIntFunction<TideWords> probe) {
        List<Integer> all = new ArrayList<>();
        all.add(probe.applyAsInt(x));
        for (int what = 0; what <= 10; what++) {
            all.add(x.count(what));
        }
        for (int what = 0; what <= 8; what++) {
            for (int i = 0; i < 4; i++) {
                all.add(i < 2 ? x.store(i, what) : 0);
                all.add(x.gateOf(i, what));
            }
        }
        for (int word = 0; word < x.count(1); word++) {
            for (int what = 0; what <= 12; what++) {
                all.add(x.word(word, what));
            }
            all.add(x.at(0, word));
            all.add(x.at(1, word));
        }
        all.add(x.fault());
        return all;
    }
}
