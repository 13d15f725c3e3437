import java.util.Arrays;
import java.util.function.IntConsumer;

/** Numbers that a call is given: the last that is taken and the first that is refused, on each side, and the farthest. */
final class Args {
    private Args() {
    }

    /** What is done with two, three or four of them; those that a call has not are not looked at. */
    interface Call {
        void with(int one, int two, int three, int four);
    }

    static int[] around(int least, int most) {
        int[] all = {Integer.MIN_VALUE, least - 1, least, (least + most) / 2, most, most + 1, Integer.MAX_VALUE};
        return Arrays.stream(all).distinct().toArray();
    }

    /** The numbers around these two that are not from the one to the other. */
    static void eachNot(int least, int most, IntConsumer call) {
        for (int number : around(least, most)) {
            if (number < least || number > most) {
                call.accept(number);
            }
        }
    }

    static boolean isNot(int number, int bound) {
        return number < 0 || number >= bound;
    }

    /** All that stand around their bounds, each with each. */
    static void each(int first, int second, int third, int fourth, Call call) {
        for (int one : around(0, first - 1)) {
            for (int two : around(0, second - 1)) {
                for (int three : around(0, third - 1)) {
                    for (int four : around(0, fourth - 1)) {
                        call.with(one, two, three, four);
                    }
                }
            }
        }
    }
}
