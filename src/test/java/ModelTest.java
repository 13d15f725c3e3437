import java.util.function.ToLongFunction;

/** All promises: random runs of 512 calls, each compared with what the plain Model of the document answers. */
public final class ModelTest {
    private static final int RUNS = 400;
    private static final int[] ODD = {-1, -2, 4, 5, 6, 7, 8, 9, 10, 11, 12, 99, 100, 127, 999, 1000,
        Integer.MIN_VALUE, Integer.MAX_VALUE};

    private static long seed = 20261119;
    private static int caught = 0;

    private final Used x = new Used();
    private final Model model = new Model();
    private final String run;

    private ModelTest(String run) {
        this.run = run;
    }

    public static void main(String[] args) {
        for (int run = 0; run < RUNS; run++) {
            new ModelTest("run " + run).compare();
        }
        Due.is("enough was caught for the runs to tell something", caught > 5000 ? 1 : 0, 1);
        Due.end("ModelTest");
    }

    private static int below(int bound) {
        seed = seed * 6364136223846793005L + 1442695040888963407L;
        return (int) Long.remainderUnsigned(seed >>> 33, bound);
    }

    /** Mostly a number that names something, now and then an odd one. */
    private static int number(int bound) {
        return below(12) == 0 ? ODD[below(ODD.length)] : below(bound);
    }

    private boolean mayGoOn() {
        return x.calls() < Used.MOST_CALLS;
    }

    /** What both answer; nothing behind the last call that an object is used for. */
    private long is(String call, ToLongFunction<Face> asked) {
        if (!mayGoOn()) {
            return RowUnwinder.NONE;
        }
        long due = asked.applyAsLong(model);
        Due.is(run + ", call " + x.calls() + ": " + call, asked.applyAsLong(x), due);
        return due;
    }

    private void compare() {
        boolean withoutText = below(20) == 0;
        if (!withoutText) {
            write(text());
            is("text()", Face::text);
        }
        while (x.calls() < Used.MOST_CALLS - 1) {
            if (x.calls() % 7 == 0) {
                some();
            } else {
                often();
            }
        }
        is("digest()", Face::digest);
    }

    private void write(String page) {
        for (char letter : page.toCharArray()) {
            is("letter " + letter, face -> face.letter(letter));
        }
    }

    private static char pick(String letters) {
        return letters.charAt(below(letters.length()));
    }

    private static String text() {
        StringBuilder text = new StringBuilder();
        int functions = 1 + below(3);
        for (int function = 0; function < functions; function++) {
            text.append(function == 0 ? "" : "/");
            appendProgram(text);
            text.append(';');
            int pads = below(4);
            for (int pad = 0; pad < pads && text.length() < 95; pad++) {
                int from = below(3);
                text.append(pick("cafug")).append(from).append(from + below(10 - from)).append(below(5)).append(below(6));
            }
        }
        return text.length() > 100 ? ";" : text.toString();
    }

    private static void appendProgram(StringBuilder text) {
        int ops = below(9);
        int depth = 0;
        int address = 0;
        for (int op = 0; op < ops; op++) {
            switch (below(6)) {
                case 0 -> {
                    if (depth < 3) {
                        text.append('m');
                        depth++;
                    }
                }
                case 1 -> {
                    if (depth > 0) {
                        text.append('b');
                        depth--;
                    }
                }
                case 2 -> text.append('u').append(below(4));
                case 3 -> {
                    int by = 1 + below(3);
                    if (address + by < 10) {
                        text.append('+').append(by);
                        address += by;
                    }
                }
                default -> text.append('s').append(below(4)).append(below(6));
            }
        }
    }

    /** A page that is a TEXT, or was one until a letter was changed, put in or left out. */
    private void writeSpoilt() {
        StringBuilder page = new StringBuilder(text());
        for (int spoilt = below(3); spoilt > 0; spoilt--) {
            int place = below(page.length());
            char letter = below(10) == 0 ? (char) (1 + below(126)) : pick("0123456789+sumb;/cafug");
            switch (below(3)) {
                case 0 -> page.setCharAt(place, letter);
                case 1 -> page.insert(place, letter);
                default -> page.deleteCharAt(place);
            }
            if (page.length() == 0) {
                page.append(letter);
            }
        }
        is("blank()", Face::blank);
        write(page.toString());
        is("fault() of " + page, Face::fault);
        if (below(4) == 0) {
            is("text() of " + page, Face::text);
        }
    }

    private void often() {
        int a = number(3);
        int b = number(3);
        switch (below(12)) {
            case 0, 1, 2 -> is("call(" + a + ")", face -> face.call(a));
            case 3, 4 -> is("go(" + a + ")", face -> face.go(a));
            case 5, 6 -> {
                int value = number(1000);
                is("set(" + a + ", " + value + ")", face -> face.set(a, value));
            }
            case 7 -> is("back()", Face::back);
            case 8 -> {
                int kind = number(5);
                is("change(" + a + ", " + b + ", " + kind + ")", face -> face.change(a, b, kind));
            }
            case 9 -> is("undo()", Face::undo);
            default -> {
                int type = number(5);
                caught += is("raise(" + type + ")", face -> face.raise(type)) >= 0 ? 1 : 0;
            }
        }
    }

    private void some() {
        int a = number(3);
        int b = number(4);
        int c = number(10);
        switch (below(24)) {
            case 0 -> is("letter(" + c + ")", face -> face.letter(c));
            case 1 -> is("blank()", Face::blank);
            case 2 -> is("fault()", Face::fault);
            case 3 -> writeSpoilt();
            case 4 -> is("row(" + a + ", " + c + ", " + b + ")", face -> face.row(a, c, b));
            case 5 -> is("pad(" + a + ", " + b + ", " + c + ")", face -> face.pad(a, b, c));
            case 6 -> is("as(" + a + ", " + b + ", " + c % 5 + ")", face -> face.as(a, b, c % 5));
            case 7 -> is("frame(" + b + ", " + c + ")", face -> face.frame(b, c));
            case 8 -> is("register(" + b + ")", face -> face.register(b));
            case 9 -> is("search(" + b + ", " + a + ")", face -> face.search(b, a));
            case 10 -> is("loose()", Face::loose);
            case 11 -> is("finished(" + (c - 1) + ")", face -> face.finished(c - 1));
            case 12 -> is("same(" + a + ", " + b + ")", face -> face.same(a, b));
            case 13, 14, 15 -> {
                int did = number(3);
                is("see(" + a + ", " + b + ", " + c % 5 + ", " + did + ")", face -> face.see(a, b, c % 5, did));
            }
            case 16 -> is("forget()", Face::forget);
            case 17, 18 -> {
                int times = number(99) + 1;
                int start = number(Integer.MAX_VALUE);
                is("drawn(" + times + ", " + start + ", " + b + ")", face -> face.drawn(times, start, b));
            }
            case 19 -> is("image()", Face::image);
            case 20 -> is("restore()", Face::restore);
            case 21 -> is("count(" + c + ")", face -> face.count(c));
            default -> is("digest()", Face::digest);
        }
    }
}
