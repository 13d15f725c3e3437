/** Promises 27 and 28: count(), digest(). */
public final class TellTest {
    private static final int MIN = Integer.MIN_VALUE, MAX = Integer.MAX_VALUE, N = RowUnwinder.NONE;

    private static long h;

    public static void main(String[] args) {
        testCount();
        testDigestOfNothing();
        testDigest();
        Due.end("TellTest");
    }

    private static void counts(Used x, int... due) {
        for (int what = 0; what < 8; what++) {
            Due.is("count(" + what + ")", x.count(what), due[what]);
        }
    }

    private static void testCount() {
        Used x = new Used();
        counts(x, 0, 0, 0, 0, 0, 0, 0, 0);
        Due.write(x, "s00+5u0;a0900/;c0900f0900/;");
        counts(x, 0, 0, 0, 0, 0, 0, 27, 0);
        x.text();
        counts(x, 3, 3, 0, 0, 5, 0, 0, 1);
        x.call(0);
        x.call(1);
        x.set(0, 1);
        x.see(0, 0, 0, 0);
        x.see(0, 0, 0, 0);
        x.letter(1);
        counts(x, 3, 3, 2, 3, 5, 2, 1, 1);
        x.raise(1);
        counts(x, 3, 3, 1, 4, 5, 2, 1, 1);
        long ahead = x.digest();
        int[] outside = {-1, 8, MIN, MAX};
        for (int what : outside) {
            Due.refused("count", x, ahead, x.count(what), RowUnwinder.OUTSIDE);
        }
    }

    private static void add(long number) {
        h = 31 * h + number;
    }

    private static void testDigestOfNothing() {
        h = 1399;
        // REGISTERS, finished() of NONE, count() for 0 to 7.
        for (int number = 0; number < 4 + 1 + 8; number++) {
            add(0);
        }
        Due.is("digest() of a new object", new Used().digest(), h);
        Used x = Due.written("s");
        h = 1399;
        for (int number = 0; number < 4 + 1; number++) {
            add(0);
        }
        add('s');
        for (int what = 0; what < 8; what++) {
            add(what == 6 ? 1 : 0);
        }
        Due.is("digest() of a letter", x.digest(), h);
    }

    private static void testDigest() {
        Used x = Due.read("s00ms11+2u0+3b;f0900a0904/s25;g0930f2300");
        Due.is("digest()", x.digest(), digestOf(x, ""));
        x.set(0, 999);
        x.call(0);
        x.go(2);
        x.set(0, 998);
        x.call(1);
        x.call(1);
        x.go(2);
        x.raise(2);
        x.see(1, 0, 3, 1);
        x.see(0, 1, 3, 1);
        x.call(1);
        Due.write(x, "m~");
        x.letter(1);
        Due.is("digest()", x.digest(), digestOf(x, "m~\u0001"));
    }

    /** By what the other calls tell, each for itself. */
    private static long digestOf(Used x, String page) {
        h = 1399;
        for (int function = 0; function < x.count(0); function++) {
            for (int address = 0; address < 10; address++) {
                for (int what = 0; what < 6; what++) {
                    add(x.row(function, address, what));
                }
            }
            for (int pad = 0; pad < 3 && x.pad(function, pad, 0) >= 0; pad++) {
                for (int what = 0; what < 7; what++) {
                    add(x.pad(function, pad, what));
                }
            }
        }
        for (int frame = 0; frame < x.count(2); frame++) {
            for (int what = 0; what < 12; what++) {
                add(x.frame(frame, what));
            }
        }
        for (int register = 0; register < 4; register++) {
            add(x.register(register));
        }
        for (int type = 0; type < 5; type++) {
            for (int what = 0; what < 3; what++) {
                add(x.search(type, what));
            }
        }
        add(x.loose());
        add(x.finished(N));
        for (int number = 0; number < x.finished(N); number++) {
            add(x.finished(number));
        }
        for (int place = 0; place < page.length(); place++) {
            add(page.charAt(place));
        }
        for (int what = 0; what < 8; what++) {
            add(x.count(what));
        }
        return h;
    }
}
