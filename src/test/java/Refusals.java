import java.util.ArrayList;
import java.util.List;
import java.util.function.Consumer;
import java.util.function.Supplier;
import java.util.function.ToIntFunction;

/**
 * Calls that are refused, made on an object beside whose twin they were not: behind them both tell the same, now, as
 * they are taken back step by step, and as they go on from their images.
 */
final class Refusals {
    private static final int BATCH = 100;

    private final Supplier<Used> maker;
    private Used object;
    private int made = 0;

    private Refusals(Supplier<Used> maker) {
        this.maker = maker;
        object = maker.get();
    }

    /** Tries the calls on objects of each of the states. */
    static void in(List<Supplier<Used>> states, Consumer<Refusals> calls) {
        for (Supplier<Used> state : states) {
            Refusals refusals = new Refusals(state);
            calls.accept(refusals);
            refusals.compareWithTwin();
        }
    }

    static void in(Supplier<Used> state, Consumer<Refusals> calls) {
        in(List.of(state), calls);
    }

    void is(String call, ToIntFunction<Used> refused, int due) {
        if (made == BATCH) {
            compareWithTwin();
            object = maker.get();
            made = 0;
        }
        Due.is(call, refused.applyAsInt(object), due);
        made++;
    }

    private void compareWithTwin() {
        Due.is("whether nothing is refused at all", made == 0 ? 1 : 0, 0);
        List<Long> told = allTold(object);
        List<Long> due = allTold(maker.get());
        for (int number = 0; number < due.size(); number++) {
            Due.is("behind " + made + " refused calls, answer " + number, told.get(number), due.get(number));
        }
    }

    private static List<Long> allTold(Used x) {
        List<Long> told = new ArrayList<>();
        told.add(x.digest());
        for (int what = 0; what < 3; what++) {
            told.add((long) x.drawn(99, 11, what));
        }
        addUndone(x, told);
        told.add((long) x.restore());
        addUndone(x, told);
        told.add((long) x.fault());
        told.add((long) x.blank());
        told.add((long) x.forget());
        told.add((long) x.call(0));
        told.add(x.digest());
        return told;
    }

    /** As many answers each time, so that two lists can be laid side by side. */
    private static void addUndone(Used x, List<Long> told) {
        for (int back = 0; back < 31; back++) {
            told.add((long) x.undo());
            told.add(x.digest());
        }
    }
}
