import java.util.List;
import java.util.function.Supplier;

/** Objects as they stand where refusals are tried, each made anew and with few enough calls. */
final class States {
    /** Three FUNCTIONS, with two, two and three PADS. */
    static final String TEXT = "s00s11+2s02m+1u0b;c0911a2504/;f0930g3922/+1s33;u0920f0900g0940";
    private static final int[] PADS = {2, 2, 3};

    static final List<Supplier<Used>> WITHOUT_TEXT = List.of(Used::new, () -> Due.written("m~;"));
    static final List<Supplier<Used>> WITH_TEXT = List.of(() -> Due.read(TEXT), States::rich);

    private States() {
    }

    static boolean noFunction(int function) {
        return function < 0 || function >= PADS.length;
    }

    static boolean noPad(int function, int pad) {
        return noFunction(function) || pad < 0 || pad >= PADS[function];
    }

    /** Two FRAMES, five things done ahead of an IMAGE and four behind it, three SEEN, one that FINISHED, a page begun. */
    static Used rich() {
        Used x = Due.read(TEXT);
        x.set(0, 7);
        x.call(0);
        x.call(1);
        x.go(3);
        x.raise(2);
        x.see(0, 1, 2, 1);
        x.see(2, 2, 0, 2);
        x.image();
        x.set(2, 999);
        x.call(2);
        x.back();
        x.change(2, 0, 4);
        x.see(1, 0, 3, 0);
        Due.write(x, "s0");
        return x;
    }

    /** As many FRAMES, letters, SEEN and things to take back as there can be. */
    static Used full() {
        Used x = Due.read(";c0900/;g0930/;");
        for (int many = 1; many <= 23; many++) {
            x.set(many % 4, 10 * many);
        }
        for (int many = 1; many <= 8; many++) {
            x.call(many % 3);
        }
        for (int many = 1; many <= 6; many++) {
            x.see(many % 2, 0, many % 5, many % 2);
        }
        x.image();
        for (int many = 1; many <= 100; many++) {
            x.letter(many);
        }
        return x;
    }
}
