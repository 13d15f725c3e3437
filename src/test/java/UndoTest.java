/** Promises 17, 25 and 26: undo(), image(), restore(). */
public final class UndoTest {
    private static final int N = RowUnwinder.NONE;

    public static void main(String[] args) {
        testEachIsTakenBack();
        testWhatCannotBe();
        testLatestThirty();
        testFinishedIsTakenBack();
        testWhatStays();
        testImage();
        testImageRefusals();
        testImageKeepsWhatCanBeTakenBack();
        Due.end("UndoTest");
    }

    private static void undone(String call, Used x, long ahead, int left) {
        Due.is("undo() of " + call, x.undo(), left);
        Due.is("digest() behind undo() of " + call, x.digest(), ahead);
    }

    private static void testEachIsTakenBack() {
        Used x = Due.read("s00s11+1s02;a0903/;f0900");
        x.set(0, 5);
        x.call(0);
        long ahead = x.digest();
        x.call(1);
        undone("call", x, ahead, 2);
        x.go(4);
        undone("go", x, ahead, 2);
        x.set(3, 7);
        undone("set", x, ahead, 2);
        x.set(0, 5);
        undone("set to the same", x, ahead, 2);
        x.set(0, 6);
        ahead = x.digest();
        x.back();
        undone("back", x, ahead, 3);
        x.change(1, 0, 4);
        undone("change", x, ahead, 3);
        x.change(1, 0, 2);
        undone("change to the same", x, ahead, 3);
        x.call(1);
        x.set(1, 9);
        ahead = x.digest();
        Due.is("raise()", x.raise(3), 1);
        undone("raise", x, ahead, 5);
        for (int left = 4; left >= 0; left--) {
            Due.is("undo()", x.undo(), left);
        }
        Due.is("digest() of nothing done", x.digest(), Due.read("s00s11+1s02;a0903/;f0900").digest());
        Due.is("undo()", x.undo(), RowUnwinder.STATE);
    }

    private static void testWhatCannotBe() {
        Used x = Due.read(";c0900");
        x.call(0);
        Due.is("count(3)", x.count(3), 1);
        Due.is("raise that nobody catches", x.raise(1), N);
        x.call(5);
        x.go(0);
        x.go(99);
        x.set(9, 9);
        x.set(0, -1);
        x.raise(7);
        x.change(0, 0, 9);
        x.change(0, 3, 0);
        x.search(0, 0);
        x.loose();
        x.drawn(99, 1, 0);
        x.see(0, 0, 0, 0);
        x.forget();
        x.letter('x');
        x.fault();
        x.blank();
        x.text();
        Due.is("count(3)", x.count(3), 1);
        Due.is("undo()", x.undo(), 0);
        Due.is("back()", x.back(), RowUnwinder.STATE);
        long ahead = x.digest();
        Due.refused("undo", x, ahead, x.undo(), RowUnwinder.STATE);
    }

    private static void testLatestThirty() {
        Used x = Due.read(";");
        for (int value = 1; value <= 75; value++) {
            x.set(0, value);
            Due.is("count(3)", x.count(3), Math.min(value, 30));
        }
        for (int back = 1; back <= 30; back++) {
            Due.is("undo()", x.undo(), 30 - back);
            Due.is("register(0)", x.register(0), 75 - back);
        }
        long ahead = x.digest();
        Due.refused("undo of the 31st", x, ahead, x.undo(), RowUnwinder.STATE);
        for (int value = 1; value <= 29; value++) {
            x.set(1, value);
        }
        Due.is("undo()", x.undo(), 28);
        Due.is("register(1)", x.register(1), 28);
    }

    private static void testFinishedIsTakenBack() {
        Used x = Due.read(";f0900f0900a0900/;f0900");
        x.call(0);
        x.raise(0);
        x.call(1);
        x.raise(1);
        Due.is("finished(NONE)", x.finished(N), 3);
        Due.is("finished(0)", x.finished(0), 10);
        x.set(0, 1);
        x.undo();
        Due.is("finished(NONE)", x.finished(N), 3);
        x.undo();
        Due.is("finished(NONE)", x.finished(N), 2);
        Due.is("finished(0)", x.finished(0), 0);
        Due.is("finished(2)", x.finished(2), RowUnwinder.UNKNOWN);
        x.undo();
        x.undo();
        Due.is("finished(NONE)", x.finished(N), 0);
    }

    /** SEEN and THE PAGE are not what is taken back. */
    private static void testWhatStays() {
        Used x = Due.read(";c0900");
        x.call(0);
        x.see(0, 0, 1, 0);
        x.letter('m');
        x.undo();
        Due.is("count(5)", x.count(5), 1);
        Due.is("count(6)", x.count(6), 1);
        Due.is("count(7)", x.count(7), 1);
    }

    private static void testImage() {
        Used x = Due.read("s00;f0900a0903/;g0940");
        x.set(0, 5);
        x.call(0);
        x.set(0, 6);
        x.call(1);
        x.raise(2);
        x.change(0, 0, 3);
        x.see(1, 0, 4, 1);
        x.see(0, 0, 0, 1);
        x.see(0, 0, 1, 0);
        long kept = x.digest();
        Due.is("image()", x.image(), 1);
        Due.is("digest() behind image()", x.digest(), kept);
        x.undo();
        x.undo();
        x.set(0, 7);
        x.set(2, 8);
        x.call(1);
        x.forget();
        x.see(0, 0, 1, 2);
        x.see(1, 0, 4, 2);
        Due.is("restore()", x.restore(), 1);
        Due.is("digest() behind restore()", x.digest(), kept);
        for (int many = 1; many < 40; many++) {
            x.set(3, many);
        }
        x.back();
        x.letter('q');
        Due.is("restore() again", x.restore(), 1);
        Due.is("THE PAGE is as it was", x.blank(), 1);
        Due.is("digest() behind restore()", x.digest(), kept);
        // The latest one is kept.
        x.back();
        Due.is("image()", x.image(), 0);
        x.call(0);
        Due.is("restore()", x.restore(), 0);
    }

    private static void testImageRefusals() {
        Used x = Due.read(";");
        long ahead = x.digest();
        Due.refused("restore without an IMAGE", x, ahead, x.restore(), RowUnwinder.STATE);
        x.image();
        Due.write(x, "q");
        Due.is("a page that is no TEXT", x.text(), RowUnwinder.STATE);
        Due.is("restore()", x.restore(), 0);
        x.blank();
        Due.write(x, ";");
        Due.is("the same TEXT again", x.text(), 1);
        ahead = x.digest();
        Due.refused("restore with another TEXT since", x, ahead, x.restore(), RowUnwinder.STATE);
        Due.is("image()", x.image(), 0);
        Due.is("restore()", x.restore(), 0);
    }

    private static void testImageKeepsWhatCanBeTakenBack() {
        Used x = Due.read(";");
        for (int value = 1; value <= 40; value++) {
            x.set(0, value);
        }
        x.image();
        for (int many = 0; many < 30; many++) {
            x.undo();
        }
        for (int value = 1; value <= 35; value++) {
            x.set(1, value);
        }
        Due.is("restore()", x.restore(), 0);
        Due.is("count(3)", x.count(3), 30);
        for (int back = 1; back <= 30; back++) {
            Due.is("undo()", x.undo(), 30 - back);
            Due.is("register(0)", x.register(0), 40 - back);
            Due.is("register(1)", x.register(1), 0);
        }
        Due.is("restore()", x.restore(), 0);
        Due.is("count(3)", x.count(3), 30);
    }
}
