/** Promises 6, 7, 8 and 21, and count(1) and count(4): row(), pad(), as(), same(). */
public final class CodeTest {
    private static final int N = RowUnwinder.NONE;

    public static void main(String[] args) {
        testRows();
        testRowsAreReplacedAndRemembered();
        testRowRefusals();
        testPad();
        testPadRefusals();
        testAs();
        testSame();
        testCounts();
        Due.end("CodeTest");
    }

    private static void testRows() {
        Used x = Due.read("s02+3s15m+2b+4s30;/;/+1+1u2;");
        Told.row(x, 0, 0, 2, N, N, N, 0, 0);
        Told.row(x, 0, 2, 2, N, N, N, 0, 0);
        Told.row(x, 0, 3, 2, 5, N, N, 1, 3);
        Told.row(x, 0, 4, 2, 5, N, N, 1, 3);
        Told.row(x, 0, 5, 2, 5, N, N, 0, 5);
        Told.row(x, 0, 8, 2, 5, N, N, 0, 5);
        Told.row(x, 0, 9, 2, 5, N, 0, 0, 9);
        for (int address = 0; address < 10; address++) {
            Told.row(x, 1, address, N, N, N, N, 0, 0);
            Told.row(x, 2, address, N, N, N, N, 0, address < 2 ? 0 : 2);
        }
    }

    private static void testRowsAreReplacedAndRemembered() {
        Used x = Due.read("s00m+1s01m+1s02m;/mm+1s05m+1bb;/s00s10s01+9;");
        Told.row(x, 0, 0, 0, N, N, N, 1, 0);
        Told.row(x, 0, 1, 1, N, N, N, 2, 1);
        Told.row(x, 0, 2, 2, N, N, N, 3, 2);
        Told.row(x, 1, 0, N, N, N, N, 2, 0);
        Told.row(x, 1, 1, 5, N, N, N, 3, 1);
        Told.row(x, 1, 9, N, N, N, N, 1, 2);
        Told.row(x, 2, 0, 1, 0, N, N, 0, 0);
        Told.row(x, 2, 9, 1, 0, N, N, 0, 0);
        // One upon the other: the latest is taken off first.
        x = Due.read("s00ms01m+1b+1b;/s00mu0+1s10b;");
        Told.row(x, 0, 0, 1, N, N, N, 2, 0);
        Told.row(x, 0, 1, 1, N, N, N, 1, 1);
        Told.row(x, 0, 2, 0, N, N, N, 0, 2);
        Told.row(x, 1, 0, N, N, N, N, 1, 0);
        Told.row(x, 1, 1, 0, N, N, N, 0, 1);
    }

    private static void testRowRefusals() {
        Used x = Due.read(";/;");
        long ahead = x.digest();
        int[][] unknown = {{-1, 0, 0}, {2, 0, 0}, {3, 0, 0}, {0, -1, 0}, {0, 10, 0}, {2, 0, 6}, {0, 10, -1},
            {Integer.MIN_VALUE, 0, 0}, {Integer.MAX_VALUE, 0, 0}, {0, Integer.MIN_VALUE, 0}, {0, Integer.MAX_VALUE, 0}};
        for (int[] one : unknown) {
            Due.refused("row", x, ahead, x.row(one[0], one[1], one[2]), RowUnwinder.UNKNOWN);
        }
        int[] outside = {-1, 6, Integer.MIN_VALUE, Integer.MAX_VALUE};
        for (int what : outside) {
            Due.refused("row", x, ahead, x.row(1, 9, what), RowUnwinder.OUTSIDE);
        }
    }

    private static void testPad() {
        Used x = Due.read(";c0123a4537/;/;f9948u0040g2318");
        int[][] due = {{0, 0, 0, 0, 1, 2, 3}, {0, 1, 1, 4, 5, 3, 7}, {2, 0, 2, 9, 9, 4, 8}, {2, 1, 3, 0, 0, 4, 0}, {2, 2, 4, 2, 3, 1, 8}};
        for (int[] one : due) {
            for (int what = 0; what < 5; what++) {
                Due.is("pad(" + one[0] + ", " + one[1] + ", " + what + ")", x.pad(one[0], one[1], what), one[2 + what]);
            }
            Due.is("SORTS", x.pad(one[0], one[1], 5), 31);
        }
        Due.is("change()", x.change(2, 1, 4), 3);
        Due.is("KIND of a PAD that was changed", x.pad(2, 1, 0), 4);
        Due.is("TYPE of a PAD that was changed", x.pad(2, 1, 3), 4);
        Due.is("SORTS of a PAD that was changed", x.pad(2, 1, 5), 31);
        Due.is("KIND of the other one", x.pad(2, 0, 0), 2);
    }

    private static void testPadRefusals() {
        int[][] unknown = {{-1, 0}, {3, 0}, {0, 1}, {0, -1}, {1, 0}, {2, 2}, {2, 3}, {Integer.MAX_VALUE, 0}, {Integer.MIN_VALUE, 0},
            {0, Integer.MAX_VALUE}, {0, Integer.MIN_VALUE}};
        int[] whats = {0, 6, 7, -1, Integer.MIN_VALUE, Integer.MAX_VALUE};
        for (int[] one : unknown) {
            Used x = Due.read(";c0000/;/;a0900f0900");
            long ahead = x.digest();
            for (int what : whats) {
                Due.refused("pad", x, ahead, x.pad(one[0], one[1], what), RowUnwinder.UNKNOWN);
                Due.refused("as", x, ahead, x.as(one[0], one[1], what), RowUnwinder.UNKNOWN);
                Due.refused("change", x, ahead, x.change(one[0], one[1], what), RowUnwinder.UNKNOWN);
                Due.refused("see", x, ahead, x.see(one[0], one[1], what, what), RowUnwinder.UNKNOWN);
            }
        }
        Used x = Due.read(";c0000/;/;a0900f0900");
        long ahead = x.digest();
        int[] outside = {-1, 7, 8, Integer.MIN_VALUE, Integer.MAX_VALUE};
        for (int what : outside) {
            Due.refused("pad", x, ahead, x.pad(2, 1, what), RowUnwinder.OUTSIDE);
            Due.refused("as", x, ahead, x.as(2, 1, what), RowUnwinder.OUTSIDE);
            Due.refused("change", x, ahead, x.change(2, 1, what), RowUnwinder.OUTSIDE);
        }
        Due.refused("as 5", x, ahead, x.as(2, 1, 5), RowUnwinder.OUTSIDE);
        Due.refused("change 5", x, ahead, x.change(2, 1, 5), RowUnwinder.OUTSIDE);
    }

    private static void testAs() {
        Used x = Due.read(";f0900c0900a0900");
        // A row a KIND that the PAD is, a column a KIND that it is taken as.
        boolean[][] is = {{true, false, false, false, false}, {true, true, false, false, false}, {true, false, true, false, false},
            {true, false, false, true, false}, {true, false, true, false, true}};
        for (int kind = 0; kind < 5; kind++) {
            for (int pad = 0; pad < 3; pad++) {
                x.change(0, pad, kind);
                for (int other = 0; other < 5; other++) {
                    Due.is("KIND " + kind + " as " + other, x.as(0, pad, other), is[kind][other] ? pad : N);
                }
            }
        }
    }

    private static void same(Used x, int one, int other, int due) {
        Due.is("same(" + one + ", " + other + ")", x.same(one, other), due);
        Due.is("same(" + other + ", " + one + ")", x.same(other, one), due);
    }

    private static void testSame() {
        // What is REMEMBERED, PADS and where an OP stands make no difference; where what is SAVED, does.
        Used x = Due.read("s01+2u0;/s01mu1+1m+1u0u0;c0000/s01+3u0;");
        same(x, 0, 0, 1);
        same(x, 2, 2, 1);
        same(x, 0, 1, 1);
        same(x, 0, 2, 0);
        same(x, 1, 2, 0);
        x = Due.read(";/+9s30;/+9s31;");
        same(x, 0, 1, 0);
        same(x, 1, 2, 0);
        x = Due.read("s00+1u0;/;/+1;");
        same(x, 0, 1, 0);
        same(x, 1, 2, 1);
        x = Due.read("s00;/s10;/s00;");
        same(x, 0, 1, 0);
        same(x, 0, 2, 1);
        long ahead = x.digest();
        int[] unknown = {-1, 3, Integer.MIN_VALUE, Integer.MAX_VALUE};
        for (int function : unknown) {
            Due.refused("same", x, ahead, x.same(0, function), RowUnwinder.UNKNOWN);
            Due.refused("same", x, ahead, x.same(function, 0), RowUnwinder.UNKNOWN);
            Due.refused("same", x, ahead, x.same(function, function), RowUnwinder.UNKNOWN);
        }
        x = Due.read(";/;");
        Due.is("same(0, 2)", x.same(0, 2), RowUnwinder.UNKNOWN);
    }

    private static void testCounts() {
        String[] texts = {";", "s00;", "+9s00;", "s00+1u0;/s10+5ms20;/+3s33+2u3;a0000", ";f0000f0000f0000/;g0000g0000/;"};
        int[] saving = {0, 10, 1, 13, 0};
        int[] pads = {0, 0, 0, 1, 5};
        for (int number = 0; number < texts.length; number++) {
            Used x = Due.read(texts[number]);
            Due.is("count(4) of " + texts[number], x.count(4), saving[number]);
            Due.is("count(1) of " + texts[number], x.count(1), pads[number]);
        }
    }
}
