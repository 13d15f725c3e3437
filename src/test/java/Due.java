/**
 * What the project's tests share: they tell what is due, and end with exit code 1 if something was not, or if a call
 * does not end.
 */
final class Due {
    private static final int MOST_SECONDS = 300, MOST_TOLD = 100;

    private static int right = 0;
    private static int wrong = 0;
    private static volatile String named = "";

    static {
        Thread watch = new Thread(Due::endAtLast);
        watch.setDaemon(true);
        watch.start();
    }

    private Due() {
    }

    private static void endAtLast() {
        try {
            Thread.sleep(1000L * MOST_SECONDS);
        } catch (InterruptedException e) {
            return;
        }
        System.out.println(named + "no end within " + MOST_SECONDS + " seconds");
        Runtime.getRuntime().halt(1);
    }

    static void is(String call, long got, long want) {
        if (got == want) {
            right++;
            return;
        }
        wrong++;
        if (wrong <= MOST_TOLD) {
            System.out.println(named + call + " answered " + got + ", due is " + want);
        }
    }

    /** A test of one sentence of the document, which what is not due is told with. */
    static void sentence(String section, String sentence, Runnable test) {
        Sentences.name(section, sentence);
        named = section + " '" + sentence + "': ";
        int ahead = right + wrong;
        test.run();
        is("a test that looks at nothing", right + wrong == ahead ? 1 : 0, 0);
        named = "";
    }

    static Used written(String page) {
        Used x = new Used();
        write(x, page);
        return x;
    }

    static void write(Used x, String page) {
        for (int place = 0; place < page.length(); place++) {
            is("letter " + place + " of " + page, x.letter(page.charAt(place)), place + 1);
        }
    }

    static Used read(String text) {
        Used x = written(text);
        is("text() of " + text, x.text(), text.split("/", -1).length);
        return x;
    }

    /** A call that is refused changes nothing: the digest is as it was ahead of it. */
    static void refused(String call, Used x, long digestAhead, long got, long want) {
        is(call, got, want);
        is("digest() behind " + call, x.digest(), digestAhead);
    }

    static void end(String test) {
        System.out.println(test + ": " + right + " as due, " + wrong + " not");
        if (wrong != 0 || right == 0) {
            System.exit(1);
        }
    }
}
