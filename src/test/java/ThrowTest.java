/** Promises 15, 16, 18, 19 and 20: raise(), change(), search(), loose(), finished(). */
public final class ThrowTest {
    private static final int MIN = Integer.MIN_VALUE, MAX = Integer.MAX_VALUE, N = RowUnwinder.NONE;

    public static void main(String[] args) {
        testEachKind();
        testAddresses();
        testFirstCatches();
        testUnwinding();
        testRegistersAndCells();
        testNobody();
        testLandingDoesNoOps();
        testMostFinishers();
        testMorePadsAbove();
        testChange();
        testRefusals();
        Due.end("ThrowTest");
    }

    /** A PAD of TYPE 2 of each KIND ahead of one that catches everything. */
    private static void testEachKind() {
        String letters = "cafug";
        int[] caught = {0b00100, 0b11111, 0, 0b11100, 0b00100};
        int[] finishing = {0, 0, 0b11111, 0, 0b11011};
        for (int kind = 0; kind < 5; kind++) {
            Used alone = Due.read(";" + letters.charAt(kind) + "0924");
            alone.call(0);
            Due.is("loose() of KIND " + kind, alone.loose(), 31 & ~caught[kind]);
            for (int type = 0; type < 5; type++) {
                Used x = Due.read(";" + letters.charAt(kind) + "0924a0903");
                x.call(0);
                boolean catches = (caught[kind] >> type & 1) == 1;
                int finishes = finishing[kind] >> type & 1;
                Told.search(x, type, 0, catches ? 0 : 1, finishes);
                Due.is("raise()", x.raise(type), 0);
                Due.is("where it goes on", x.frame(0, 1), catches ? 4 : 3);
                Due.is("how many FINISHED", x.finished(N), finishes);
            }
        }
    }

    private static void testAddresses() {
        Used x = Due.read(";f1310c2310a3419");
        x.call(0);
        int[] pads = {N, N, 1, 1, 2, N};
        int[] finishing = {N, N, 1, 1, 0, N};
        for (int address = 0; address < 6; address++) {
            Told.search(x, 1, pads[address] == N ? N : 0, pads[address], finishing[address]);
            Due.is("loose() at " + address, x.loose(), pads[address] == N ? 31 : address == 2 ? 29 : 0);
            x.go(1);
        }
    }

    private static void testFirstCatches() {
        Used x = Due.read(";c0905u0906a0907/;a0908/;");
        x.call(1);
        x.call(0);
        Told.search(x, 0, 0, 0, 0);
        Told.search(x, 1, 0, 1, 0);
        x.call(0);
        Told.search(x, 0, 0, 0, 0);
        x.call(2);
        Told.search(x, 0, 1, 0, 0);
        Due.is("raise(0)", x.raise(0), 1);
        Due.is("FRAMES", x.count(2), 3);
        Due.is("AT", x.frame(0, 1), 5);
        Due.is("the one below is as it was", x.frame(1, 1), 0);
    }

    private static void testUnwinding() {
        // FRAMES, from the latest: FUNCTION 2 (FINISH and GUARD), 1 (GUARD that is not for its ADDRESS), 2, 0 (catches).
        Used x = Due.read(";f0901g0922c0933/;f1911g0010/;g0930f0940");
        x.call(0);
        x.call(2);
        x.call(1);
        x.go(1);
        x.call(2);
        Due.is("loose()", x.loose(), 0b10011);
        Told.search(x, 2, 3, 1, 6);
        Told.search(x, 3, 0, 0, 0);
        Due.is("raise(2)", x.raise(2), 3);
        Told.finished(x, 20, 21, 10, 20, 21, 0);
        Due.is("FRAMES", x.count(2), 1);
        Due.is("AT", x.frame(0, 1), 2);
        // Nothing FINISHED this time.
        Used y = Due.read(";a0900");
        y.call(0);
        Due.is("raise(4)", y.raise(4), 0);
        Told.finished(y);
        // The latest counts.
        x.call(2);
        Due.is("raise(3)", x.raise(3), 0);
        Told.finished(x);
        Due.is("raise(2)", x.raise(2), 1);
        Told.finished(x, 20, 21, 0);
        Due.is("raise(1)", x.raise(1), N);
        Told.finished(x, 20, 21, 0);
    }

    private static void testRegistersAndCells() {
        Used x = Due.read("s00+1s01;a1908/s13;/s25+1u2;");
        x.set(0, 1);
        x.set(1, 2);
        x.set(2, 3);
        x.call(0);
        x.set(0, 4);
        x.go(1);
        x.set(0, 5);
        x.call(1);
        x.set(1, 6);
        x.call(2);
        x.set(2, 7);
        x.call(2);
        x.set(2, 8);
        x.go(1);
        x.set(3, 9);
        Due.is("raise(0)", x.raise(0), 3);
        // The FRAME that CATCHES is not gone BACK from; of the others each gave back what it had SAVED at its ADDRESS.
        int[] due = {5, 2, 3, 9};
        for (int register = 0; register < 4; register++) {
            Due.is("REGISTER " + register, x.register(register), due[register]);
        }
        Due.is("CELL 0 of it", x.frame(0, 2), 1);
        Due.is("CELL 1 of it", x.frame(0, 3), 4);
        Due.is("ADDRESS of it", x.frame(0, 1), 8);
    }

    private static void testNobody() {
        Used x = Due.read(";f0900c0910");
        Due.is("loose() without a FRAME", x.loose(), 31);
        Told.search(x, 1, N, N, N);
        long ahead = x.digest();
        Due.refused("raise without a FRAME", x, ahead, x.raise(1), N);
        x.call(0);
        x.call(0);
        ahead = x.digest();
        Due.refused("raise that nobody catches", x, ahead, x.raise(0), N);
        Told.search(x, 0, N, N, N);
        Due.is("count(3)", x.count(3), 2);
    }

    private static void testLandingDoesNoOps() {
        Used x = Due.read("+5s00+1s01;a0005");
        x.set(0, 7);
        x.call(0);
        Due.is("raise(0)", x.raise(0), 0);
        Due.is("ADDRESS", x.frame(0, 1), 5);
        Due.is("CELL 0", x.frame(0, 2), 0);
        Due.is("go(1)", x.go(1), 6);
        Due.is("CELL 0", x.frame(0, 2), 0);
        Due.is("CELL 1", x.frame(0, 3), 7);
        // It may land ahead, and an OP may be done again.
        x = Due.read("+2s00;a2201");
        x.call(0);
        x.go(2);
        x.set(0, 5);
        Due.is("raise(4)", x.raise(4), 0);
        Due.is("go(1)", x.go(1), 2);
        Due.is("CELL 0", x.frame(0, 2), 5);
    }

    private static void testMostFinishers() {
        Used x = Due.read(";f0900g0940f0910/;f0900f0900a0900");
        x.call(1);
        for (int many = 2; many <= 8; many++) {
            x.call(0);
        }
        Told.search(x, 0, 7, 2, 23);
        Due.is("raise(0)", x.raise(0), 7);
        int[] due = new int[23];
        for (int number = 0; number < 21; number++) {
            due[number] = number % 3;
        }
        due[21] = 10;
        due[22] = 11;
        Told.finished(x, due);
    }

    private static void testMorePadsAbove() {
        Used x = Due.read(";a0900/;f0900f0910g0920/;");
        x.call(0);
        x.call(2);
        x.call(1);
        x.call(2);
        Told.search(x, 3, 3, 0, 3);
        Due.is("raise(3)", x.raise(3), 3);
        Told.finished(x, 10, 11, 12);
    }

    private static void testChange() {
        Used x = Due.read(";c0910a0900/;f0900");
        x.call(0);
        x.call(1);
        Due.is("change(1, 0, 1)", x.change(1, 0, 1), 2);
        Told.search(x, 0, 0, 0, 0);
        Due.is("change(1, 0, 1) again", x.change(1, 0, 1), 1);
        Due.is("count(3)", x.count(3), 4);
        Due.is("change(1, 0, 0)", x.change(1, 0, 0), 1);
        Told.search(x, 3, 1, 1, 0);
        Due.is("change(0, 0, 3)", x.change(0, 0, 3), 0);
        Told.search(x, 3, 1, 0, 0);
        Due.is("change(0, 0, 4)", x.change(0, 0, 4), 3);
        Told.search(x, 3, 1, 1, 1);
        Due.is("change(0, 1, 2)", x.change(0, 1, 2), 1);
        Told.search(x, 1, 1, 0, 0);
        Told.search(x, 3, N, N, N);
    }

    private static void testRefusals() {
        Used x = Due.read(";a0900");
        x.call(0);
        long ahead = x.digest();
        int[] types = {-1, 5, MIN, MAX};
        for (int type : types) {
            Due.refused("raise", x, ahead, x.raise(type), RowUnwinder.OUTSIDE);
            Due.refused("search", x, ahead, x.search(type, 0), RowUnwinder.OUTSIDE);
            Due.refused("search", x, ahead, x.search(type, 3), RowUnwinder.OUTSIDE);
        }
        int[] whats = {-1, 3, MIN, MAX};
        for (int what : whats) {
            Due.refused("search", x, ahead, x.search(0, what), RowUnwinder.OUTSIDE);
        }
        int[] numbers = {0, 1, -2, MIN, MAX};
        for (int number : numbers) {
            Due.refused("finished", x, ahead, x.finished(number), RowUnwinder.UNKNOWN);
        }
        Due.refused("search", x, ahead, x.search(4, 2), 0);
        Due.refused("loose", x, ahead, x.loose(), 0);
        Used none = new Used();
        Due.is("raise without a TEXT, outside", none.raise(5), RowUnwinder.OUTSIDE);
        Due.is("search without a TEXT, outside", none.search(0, 3), RowUnwinder.OUTSIDE);
        Due.is("search without a TEXT, outside", none.search(5, 0), RowUnwinder.OUTSIDE);
    }
}
