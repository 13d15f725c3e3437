/** A text of two functions, two calls, and something thrown through them. README.md shows this file as it is. */
public final class Example {
    public static void main(String[] args) {
        RowUnwinder x = new RowUnwinder();
        for (char letter : "s00;a0905/s11+2u1;f0900".toCharArray()) {
            x.letter(letter);
        }
        System.out.println(x.fault());       // 23: of the page's 23 letters none is wrong
        System.out.println(x.text());        // 2 functions are read, 0 and 1
        System.out.println(x.row(1, 0, 1));  // 1: in function 1, at address 0, register 1 is saved in cell 1
        System.out.println(x.row(1, 2, 1));  // -1 (NONE): at address 2 it is saved nowhere

        System.out.println(x.set(0, 7));     // 0: what register 0 was ahead of it
        System.out.println(x.set(1, 8));     // 0
        System.out.println(x.call(0));       // 1 frame; its cell 0 keeps what register 0 is, 7
        System.out.println(x.set(0, 70));    // 7
        System.out.println(x.call(1));       // 2 frames; cell 1 of the latest one keeps what register 1 is, 8
        System.out.println(x.set(1, 80));    // 8
        System.out.println(x.frame(0, 0));   // 1: frame 0 is the latest one, it is of function 1
        System.out.println(x.frame(0, 9));   // 8: what register 1 was in the caller of frame 0
        System.out.println(x.frame(1, 8));   // 7: what register 0 was in the caller of frame 1

        System.out.println(x.search(3, 0));  // 1: frame 1 would catch type 3
        System.out.println(x.search(3, 2));  // 1: one pad would finish ahead of that
        System.out.println(x.image());       // 2: an image is kept, with two frames
        System.out.println(x.raise(3));      // 1 frame is gone, and frame 1 is the latest one now
        System.out.println(x.finished(0));   // 10: of function 1, pad 0 finished
        System.out.println(x.register(1));   // 8: it went back to what cell 1 kept
        System.out.println(x.frame(0, 1));   // 5: the address at which the pad goes on
        System.out.println(x.undo());        // 6: raise() is taken back, and six things more can be
        System.out.println(x.register(1));   // 80

        System.out.println(x.back());        // 1 frame is left
        System.out.println(x.back());        // 0
        System.out.println(x.loose());       // 31: nobody would catch type 0, 1, 2, 3 or 4 (16 + 8 + 4 + 2 + 1)
        System.out.println(x.raise(3));      // -1 (NONE): nobody catches it, nothing is done
        System.out.println(x.restore());     // 2 frames, as the image kept them

        System.out.println(x.pad(1, 0, 5));  // 31: as nothing is seen of this pad, it could be of each of five kinds
        System.out.println(x.see(1, 0, 3, 2)); // 1 sight: when type 3 was thrown, it finished
        System.out.println(x.pad(1, 0, 5));  // 20: then it is a FINISH (4) or a GUARD (16)
        System.out.println(x.pad(1, 0, 6));  // 0: throwing type 0, its own, would tell which

        System.out.println(x.call(9));       // -101 (UNKNOWN): there is no function 9
        System.out.println(x.go(0));         // -102 (OUTSIDE): one address at least
    }
}
