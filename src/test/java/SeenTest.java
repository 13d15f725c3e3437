/** Promises 22 and 23, and 7's SORTS and ASK: see(), forget(), pad() for 5 and 6. */
public final class SeenTest {
    private static final int MIN = Integer.MIN_VALUE, MAX = Integer.MAX_VALUE, N = RowUnwinder.NONE;

    // KINDS as bits.
    private static final int C = 1, A = 2, F = 4, U = 8, G = 16;

    public static void main(String[] args) {
        testSeeAndForget();
        testRefusals();
        testSortsByOneSight();
        testSortsBySeveral();
        testAsk();
        Due.end("SeenTest");
    }

    private static void testSeeAndForget() {
        Used x = Due.read(";c0900c0900/;c0900");
        Due.is("forget()", x.forget(), 0);
        for (int many = 1; many <= 6; many++) {
            Due.is("see()", x.see(many % 2, 0, 2, 0), many);
            Due.is("count(5)", x.count(5), many);
        }
        long ahead = x.digest();
        Due.refused("a seventh", x, ahead, x.see(0, 0, 2, 0), RowUnwinder.FULL);
        Due.refused("a seventh, outside", x, ahead, x.see(0, 0, 5, 0), RowUnwinder.OUTSIDE);
        Due.refused("a seventh, unknown", x, ahead, x.see(1, 1, 0, 0), RowUnwinder.UNKNOWN);
        Due.is("forget()", x.forget(), 6);
        Due.is("count(5)", x.count(5), 0);
        Due.is("SORTS", x.pad(0, 0, 5), 31);
        Due.is("see()", x.see(0, 1, 4, 2), 1);
        Due.is("forget()", x.forget(), 1);
        Due.is("forget()", x.forget(), 0);
    }

    private static void testRefusals() {
        Used x = Due.read(";c0900");
        long ahead = x.digest();
        int[] types = {-1, 5, MIN, MAX};
        for (int type : types) {
            Due.refused("see", x, ahead, x.see(0, 0, type, 0), RowUnwinder.OUTSIDE);
            Due.refused("see", x, ahead, x.see(0, 1, type, 0), RowUnwinder.UNKNOWN);
        }
        int[] deeds = {-1, 3, MIN, MAX};
        for (int did : deeds) {
            Due.refused("see", x, ahead, x.see(0, 0, 0, did), RowUnwinder.OUTSIDE);
            Due.refused("see", x, ahead, x.see(1, 0, 0, did), RowUnwinder.UNKNOWN);
        }
    }

    private static void testSortsByOneSight() {
        // By TYPE (below the PAD's own, its own, above) what it did: nothing, CAUGHT, FINISHED.
        int[][] due = {{C | U, A, F | G}, {0, C | A | U | G, F}, {C, A | U, F | G}};
        for (int type = 0; type < 5; type++) {
            for (int did = 0; did < 3; did++) {
                Used x = Due.read(";f0920f0920/;g0920");
                x.see(0, 1, type, did);
                int row = type < 2 ? 0 : type == 2 ? 1 : 2;
                Due.is("SORTS when " + type + " did " + did, x.pad(0, 1, 5), due[row][did]);
                Due.is("SORTS of another PAD", x.pad(0, 0, 5), 31);
                Due.is("SORTS of another PAD", x.pad(1, 0, 5), 31);
                x.change(0, 1, 1);
                Due.is("SORTS do not follow the KIND", x.pad(0, 1, 5), due[row][did]);
            }
        }
    }

    private static void testSortsBySeveral() {
        Used x = Due.read(";c0920a0920u0940");
        x.see(0, 0, 2, 1);
        Due.is("SORTS", x.pad(0, 0, 5), C | A | U | G);
        x.see(0, 0, 3, 1);
        Due.is("SORTS", x.pad(0, 0, 5), A | U);
        x.see(0, 1, 2, 2);
        Due.is("SORTS", x.pad(0, 0, 5), A | U);
        Due.is("SORTS", x.pad(0, 1, 5), F);
        x.see(0, 0, 0, 0);
        Due.is("SORTS", x.pad(0, 0, 5), U);
        x.see(0, 0, 0, 2);
        Due.is("SORTS", x.pad(0, 0, 5), 0);
        Due.is("ASK", x.pad(0, 0, 6), N);
        // The TYPE is each PAD's own.
        x.see(0, 2, 3, 0);
        Due.is("SORTS", x.pad(0, 2, 5), C | U);
    }

    private static void testAsk() {
        // TYPE 2, all SORTS: at 0 and 1 two at worst (c, u | a | f, g), at 2 four, at 3 two: the least of like ones.
        Used x = Due.read(";c0920c0900c0910/;c0940");
        Due.is("ASK", x.pad(0, 0, 6), 0);
        // TYPE 0: at 0 four, above 0 two.
        Due.is("ASK", x.pad(0, 1, 6), 1);
        Due.is("ASK", x.pad(0, 2, 6), 0);
        Due.is("ASK", x.pad(1, 0, 6), 0);
        // TYPE 2: c or u: only a greater one tells.
        x.see(0, 0, 0, 0);
        Due.is("SORTS", x.pad(0, 0, 5), C | U);
        Due.is("ASK", x.pad(0, 0, 6), 3);
        x.see(0, 0, 3, 1);
        Due.is("SORTS", x.pad(0, 0, 5), U);
        Due.is("ASK for one of one SORT", x.pad(0, 0, 6), 0);
        x.forget();
        // TYPE 2: f or g: only its own tells.
        x.see(0, 0, 1, 2);
        Due.is("SORTS", x.pad(0, 0, 5), F | G);
        Due.is("ASK", x.pad(0, 0, 6), 2);
        x.forget();
        // TYPE 4, its own caught: c, a, u, g: below it two at worst.
        x.see(1, 0, 4, 1);
        Due.is("SORTS", x.pad(1, 0, 5), C | A | U | G);
        Due.is("ASK", x.pad(1, 0, 6), 0);
        // TYPE 4, c or u: nothing tells, so the least.
        x.forget();
        x.see(1, 0, 1, 0);
        Due.is("SORTS", x.pad(1, 0, 5), C | U);
        Due.is("ASK", x.pad(1, 0, 6), 0);
    }
}
