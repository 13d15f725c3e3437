/** Promises 9 to 14: frame(), register(), call(), go(), set(), back(). */
public final class FramesTest {
    private static final int MIN = Integer.MIN_VALUE, MAX = Integer.MAX_VALUE;

    public static void main(String[] args) {
        testSetAndRegister();
        testCall();
        testGo();
        testCells();
        testBack();
        testCaller();
        testFrameRefusals();
        Due.end("FramesTest");
    }

    private static void testSetAndRegister() {
        Used x = Due.read(";");
        for (int register = 0; register < 4; register++) {
            Due.is("set()", x.set(register, 999 - register), 0);
            Due.is("set() again", x.set(register, register), 999 - register);
            Due.is("register()", x.register(register), register);
        }
        Due.is("set() to 999", x.set(3, 999), 3);
        long ahead = x.digest();
        int[] unknown = {-1, 4, MIN, MAX};
        for (int register : unknown) {
            Due.refused("register", x, ahead, x.register(register), RowUnwinder.UNKNOWN);
            Due.refused("set", x, ahead, x.set(register, 0), RowUnwinder.UNKNOWN);
            Due.refused("set", x, ahead, x.set(register, 1000), RowUnwinder.UNKNOWN);
        }
        int[] outside = {-1, 1000, MIN, MAX};
        for (int value : outside) {
            Due.refused("set", x, ahead, x.set(0, value), RowUnwinder.OUTSIDE);
        }
        Used none = new Used();
        Due.is("set() without a TEXT, unknown", none.set(4, 0), RowUnwinder.UNKNOWN);
        Due.is("set() without a TEXT, outside", none.set(0, 1000), RowUnwinder.OUTSIDE);
        Due.is("set() without a TEXT", none.set(0, 0), RowUnwinder.STATE);
    }

    private static void testCall() {
        Used x = Due.read(";/;");
        long ahead = x.digest();
        int[] unknown = {-1, 2, 3, MIN, MAX};
        for (int function : unknown) {
            Due.refused("call", x, ahead, x.call(function), RowUnwinder.UNKNOWN);
        }
        for (int many = 1; many <= 8; many++) {
            Due.is("call()", x.call(many % 2), many);
            Due.is("count(2)", x.count(2), many);
            for (int frame = 0; frame < many; frame++) {
                Due.is("FUNCTION of FRAME " + frame, x.frame(frame, 0), (many - frame) % 2);
                Due.is("ADDRESS of FRAME " + frame, x.frame(frame, 1), 0);
            }
        }
        ahead = x.digest();
        Due.refused("call of a ninth FRAME", x, ahead, x.call(0), RowUnwinder.FULL);
        Due.refused("call of a ninth FRAME, unknown", x, ahead, x.call(2), RowUnwinder.UNKNOWN);
        Due.is("back()", x.back(), 7);
        Due.is("call()", x.call(1), 8);
    }

    private static void testGo() {
        Used x = Due.read(";");
        long ahead = x.digest();
        int[] outside = {0, -1, 10, MIN, MAX};
        for (int by : outside) {
            Due.refused("go without a FRAME", x, ahead, x.go(by), RowUnwinder.OUTSIDE);
        }
        Due.refused("go without a FRAME", x, ahead, x.go(1), RowUnwinder.STATE);
        x.call(0);
        Due.is("go(9)", x.go(9), 9);
        ahead = x.digest();
        Due.refused("go above 9", x, ahead, x.go(1), RowUnwinder.STATE);
        Due.refused("go outside", x, ahead, x.go(10), RowUnwinder.OUTSIDE);
        x.call(0);
        Due.is("go(1)", x.go(1), 1);
        Due.is("go(3)", x.go(3), 4);
        ahead = x.digest();
        Due.refused("go(6)", x, ahead, x.go(6), RowUnwinder.STATE);
        Due.is("go(5)", x.go(5), 9);
        Due.is("the other FRAME", x.frame(1, 1), 9);
    }

    private static void testCells() {
        Used x = Due.read("s00s15+2s02+1s22s30;/s00s10u1s04;");
        x.set(0, 10);
        x.set(1, 20);
        x.call(0);
        Told.cells(x, 0, 10, 0, 0, 0, 0, 20);
        x.set(0, 11);
        x.set(2, 30);
        x.set(3, 40);
        x.go(1);
        Told.cells(x, 0, 10, 0, 0, 0, 0, 20);
        x.go(1);
        Told.cells(x, 0, 10, 0, 11, 0, 0, 20);
        // Each OP "s" at ADDRESS 3 only, and each ADDRESS on the way.
        x.go(7);
        Told.cells(x, 0, 40, 0, 30, 0, 0, 20);
        // Two OPS into the same CELL: the later one stands; a REGISTER that is SAVED nowhere was SAVED all the same.
        x.call(1);
        Told.cells(x, 0, 20, 0, 0, 0, 11, 0);
        Told.cells(x, 1, 40, 0, 30, 0, 0, 20);
        // A new FRAME where another one was begins with zeros.
        x.back();
        x.call(0);
        Told.cells(x, 0, 11, 0, 0, 0, 0, 20);
        x = Due.read("s00s01s02s03s04s05;/;");
        x.set(0, 9);
        x.call(0);
        Told.cells(x, 0, 9, 9, 9, 9, 9, 9);
        x.back();
        x.call(1);
        Told.cells(x, 0, 0, 0, 0, 0, 0, 0);
    }

    private static void testBack() {
        Used x = Due.read("s00s10+1u0+1s01+1u1;/s21;");
        long ahead = x.digest();
        Due.refused("back", x, ahead, x.back(), RowUnwinder.STATE);
        // Behind BACK from ADDRESS 0 to 3: REGISTERS 0 and 1 are what the CELL is in which they are SAVED there, if they are.
        int[] first = {2, 3, 9, 9};
        int[] second = {2, 2, 2, 8};
        for (int address = 0; address < 4; address++) {
            x.set(0, 1);
            x.set(1, 2);
            x.call(0);
            x.set(0, 9);
            x.set(1, 8);
            x.set(2, 7);
            if (address > 0) {
                x.go(address);
            }
            x.set(0, 3);
            Due.is("back()", x.back(), 0);
            Due.is("REGISTER 0 behind BACK from " + address, x.register(0), first[address]);
            Due.is("REGISTER 1 behind BACK from " + address, x.register(1), second[address]);
            Due.is("REGISTER 2 behind BACK from " + address, x.register(2), 7);
            x.set(2, 0);
        }
        x.call(1);
        x.call(1);
        Due.is("back()", x.back(), 1);
        Due.is("back()", x.back(), 0);
    }

    private static void testCaller() {
        Used x = Due.read("s00;/s01s10;/u0;");
        x.set(0, 1);
        x.set(1, 5);
        x.call(0);
        x.set(0, 2);
        x.call(1);
        x.set(0, 3);
        x.set(1, 6);
        x.call(2);
        x.set(0, 4);
        x.set(3, 7);
        int[][] due = {{4, 6, 0, 7}, {2, 5, 0, 7}, {1, 5, 0, 7}};
        for (int frame = 0; frame < 3; frame++) {
            for (int register = 0; register < 4; register++) {
                Due.is("CALLER of FRAME " + frame + " for " + register, x.frame(frame, 8 + register), due[frame][register]);
            }
        }
        Due.is("REGISTER 0 is as it was", x.register(0), 4);
        testCallerOfOneThatSaves();
        for (int frame = 0; frame < 3; frame++) {
            x.back();
            for (int register = 0; register < 4; register++) {
                Due.is("REGISTER " + register + " behind BACK", x.register(register), due[frame][register]);
            }
        }
    }

    private static void testCallerOfOneThatSaves() {
        Used x = Due.read("s21;");
        x.set(2, 5);
        x.call(0);
        x.set(2, 6);
        Due.is("CALLER of the latest FRAME", x.frame(0, 10), 5);
        x.call(0);
        x.set(2, 7);
        Due.is("CALLER of the latest FRAME", x.frame(0, 10), 6);
        Due.is("CALLER of the first FRAME", x.frame(1, 10), 5);
    }

    private static void testFrameRefusals() {
        Used x = Due.read(";");
        long ahead = x.digest();
        Due.refused("frame", x, ahead, x.frame(0, 0), RowUnwinder.UNKNOWN);
        x.call(0);
        x.call(0);
        ahead = x.digest();
        int[] unknown = {-1, 2, 8, MIN, MAX};
        for (int frame : unknown) {
            Due.refused("frame", x, ahead, x.frame(frame, 0), RowUnwinder.UNKNOWN);
            Due.refused("frame", x, ahead, x.frame(frame, 12), RowUnwinder.UNKNOWN);
        }
        int[] outside = {-1, 12, MIN, MAX};
        for (int what : outside) {
            Due.refused("frame", x, ahead, x.frame(1, what), RowUnwinder.OUTSIDE);
        }
    }
}
