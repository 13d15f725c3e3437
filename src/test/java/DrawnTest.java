/** Promise 24: drawn(), by doing with calls what the draws tell. */
public final class DrawnTest {
    private static final int MIN = Integer.MIN_VALUE, MAX = Integer.MAX_VALUE;

    private static long seed;

    public static void main(String[] args) {
        testSeeds();
        testRuns();
        testRefusals();
        Due.end("DrawnTest");
    }

    private static int draw(int bound) {
        seed = Math.floorMod(1103515245L * seed + 12345L, 1L << 31);
        return (int) ((seed >> 16) % bound);
    }

    private static void testSeeds() {
        Used x = Due.read(";");
        // The seeds 0, 5 and the greatest one, by hand: a DRAW of 4, then what it asks for.
        Due.is("drawn(1, 0, 2): a DRAW of 0, then one of one FUNCTION", x.drawn(1, 0, 2), (1103515245L * 12345L + 12345L) % 2147483648L);
        Due.is("drawn(1, 0, 1)", x.drawn(1, 0, 1), 1);
        Due.is("drawn(1, 0, 0)", x.drawn(1, 0, 0), 0);
        long first = (1103515245L * MAX + 12345L) % 2147483648L;
        Due.is("a DRAW of 1 takes no other", first / 65536L % 4L, 1);
        Due.is("drawn(1, MAX, 2)", x.drawn(1, MAX, 2), first);
        Due.is("drawn(1, MAX, 1)", x.drawn(1, MAX, 1), 0);
    }

    private static void testRuns() {
        String[] texts = {";a0900/s00+1s01;f0900c2325/s11+3u1;g0915u5902", ";a0905", "s00;c0900c0910g0925/;f0900", ";a9907", ";"};
        int[] seeds = {0, 1, 7, 1021, 65536, 123456789, MAX - 1, MAX};
        int[] times = {1, 2, 3, 10, 50, 98, 99};
        for (String text : texts) {
            for (int start : seeds) {
                for (int many : times) {
                    for (int calls = 0; calls < 9; calls += 4) {
                        compare(text, start, many, calls);
                    }
                }
            }
        }
    }

    private static void compare(String text, int start, int times, int calls) {
        Used x = Due.read(text);
        for (int call = 0; call < calls; call++) {
            x.call(call % x.count(0));
            x.go(1 + call % 9);
            x.set(call % 4, 100 + call);
        }
        long ahead = x.digest();
        int caught = x.drawn(times, start, 0);
        int frames = x.drawn(times, start, 1);
        int end = x.drawn(times, start, 2);
        Due.is("nothing is done by drawn()", x.digest(), ahead);
        seed = start;
        int due = 0;
        for (int time = 0; time < times; time++) {
            due += doOne(x);
        }
        Due.is("drawn(" + times + ", " + start + ", 0) of " + text, caught, due);
        Due.is("drawn(" + times + ", " + start + ", 1) of " + text, frames, x.count(2));
        Due.is("drawn(" + times + ", " + start + ", 2) of " + text, end, seed);
    }

    private static int doOne(Used x) {
        int draw = draw(4);
        if (draw == 0) {
            x.call(draw(x.count(0)));
        } else if (draw == 1) {
            x.go(1);
        } else if (draw == 2) {
            int register = draw(4);
            x.set(register, draw(1000));
        } else {
            return x.raise(draw(5)) >= 0 ? 1 : 0;
        }
        return 0;
    }

    private static void testRefusals() {
        Used x = Due.read(";");
        long ahead = x.digest();
        int[] times = {0, -1, 100, MIN, MAX};
        for (int many : times) {
            Due.refused("drawn", x, ahead, x.drawn(many, 0, 0), RowUnwinder.OUTSIDE);
        }
        int[] seeds = {-1, MIN};
        for (int start : seeds) {
            Due.refused("drawn", x, ahead, x.drawn(1, start, 0), RowUnwinder.OUTSIDE);
        }
        int[] whats = {-1, 3, MIN, MAX};
        for (int what : whats) {
            Due.refused("drawn", x, ahead, x.drawn(1, 0, what), RowUnwinder.OUTSIDE);
        }
        Used none = new Used();
        Due.is("drawn without a TEXT, outside", none.drawn(0, 0, 0), RowUnwinder.OUTSIDE);
        Due.is("drawn without a TEXT, outside", none.drawn(1, -1, 0), RowUnwinder.OUTSIDE);
        Due.is("drawn without a TEXT, outside", none.drawn(1, 0, 3), RowUnwinder.OUTSIDE);
        Due.is("drawn without a TEXT", none.drawn(99, MAX, 2), RowUnwinder.STATE);
    }
}
