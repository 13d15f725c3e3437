/** What the project's tests share: they tell what is due, and end with exit code 1 if something was not. */
final class Due {
    private static int right = 0;
    private static int wrong = 0;

    private Due() {
    }

    static void is(String call, long got, long want) {
        if (got == want) {
            right++;
            return;
        }
        wrong++;
        System.out.println(call + " answered " + got + ", due is " + want);
    }

    static RowUnwinder written(String page) {
        RowUnwinder x = new RowUnwinder();
        write(x, page);
        return x;
    }

    static void write(RowUnwinder x, String page) {
        for (int place = 0; place < page.length(); place++) {
            is("letter " + place + " of " + page, x.letter(page.charAt(place)), place + 1);
        }
    }

    static RowUnwinder read(String text) {
        RowUnwinder x = written(text);
        is("text() of " + text, x.text(), text.split("/", -1).length);
        return x;
    }

    /** A call that is refused changes nothing: the digest is as it was ahead of it. */
    static void refused(String call, RowUnwinder x, long digestAhead, long got, long want) {
        is(call, got, want);
        is("digest() behind " + call, x.digest(), digestAhead);
    }

    static void end(String test) {
        System.out.println(test + ": " + right + " as due, " + wrong + " not");
        if (wrong != 0 || right == 0) {
            System.exit(1);
        }
    }
}
