import java.math.BigInteger;
import java.util.ArrayList;
import java.util.Collections;
import java.util.List;

/** "Terms" on IMAGE and refusals, and promises 25 to 28, "what is told of all": image(), restore(), count(), digest(). */
final class AllEdges {
    private static final String TERMS = "Terms", IMAGE = "Promise 25", RESTORE = "Promise 26", COUNT = "Promise 27", DIGEST = "Promise 28";
    private static final int N = RowUnwinder.NONE, UNKNOWN = RowUnwinder.UNKNOWN, OUTSIDE = RowUnwinder.OUTSIDE;
    private static final int STATE = RowUnwinder.STATE, FULL = RowUnwinder.FULL;

    private AllEdges() {
    }

    static void run() {
        Due.sentence(TERMS, "An IMAGE keeps KINDS, REGISTERS, FRAMES, what FINISHED latest, what can be taken back, SEEN.",
            AllEdges::whatAnImageKeeps);
        Due.sentence(TERMS, "Refusals, of several the first as told by each call:", AllEdges::firstRefusals);
        Due.sentence(TERMS, "UNKNOWN (a number names nothing), OUTSIDE (it is not as told), STATE (as told), FULL;", AllEdges::refusalsByName);
        Due.sentence(TERMS, "they change nothing.", AllEdges::refusalsChangeNothing);
        Due.sentence(IMAGE, "An IMAGE is kept (one; the latest): how many FRAMES.", AllEdges::image);
        Due.sentence(IMAGE, "STATE: no TEXT.", AllEdges::refusedImage);
        Due.sentence(RESTORE, "It goes on from the IMAGE: how many FRAMES.", AllEdges::restore);
        Due.sentence(RESTORE, "STATE: none was kept, or there is another TEXT since.", AllEdges::refusedRestore);
        Due.sentence(COUNT, "How many: 0 FUNCTIONS, 1 PADS of all,", AllEdges::countOfText);
        Due.sentence(COUNT, "2 FRAMES, 3 what can be taken back,", AllEdges::countOfDone);
        Due.sentence(COUNT, "4 ADDRESSES of all FUNCTIONS at which something is SAVED,", AllEdges::countOfSaving);
        Due.sentence(COUNT, "5 what is SEEN, 6 letters of THE PAGE, 7 how often a TEXT was read.", AllEdges::countOfOthers);
        Due.sentence(COUNT, "OUTSIDE.", AllEdges::refusedCount);
        runOfDigest();
    }

    private static void runOfDigest() {
        Due.sentence(DIGEST, "h is 1399, then for each of these numbers, in order, 31 times h, and it (as longs, wrapping):", AllEdges::digestWraps);
        Due.sentence(DIGEST, "of each FUNCTION, one behind the other: of each ADDRESS what row() tells for 0 to 5, of each PAD what pad() tells for 0 to 6;",
            AllEdges::digestOfFunctions);
        Due.sentence(DIGEST, "of each FRAME what frame() tells for 0 to 11; REGISTERS 0 to 3;", AllEdges::digestOfFrames);
        Due.sentence(DIGEST, "with a TEXT of each TYPE search() for 0 to 2, loose();", AllEdges::digestOfSearch);
        Due.sentence(DIGEST, "finished() of NONE, and of all that FINISHED; letters of THE PAGE; what count() tells for 0 to 7.",
            AllEdges::digestOfTheRest);
    }

    /** What is done behind an IMAGE. */
    private interface Deed {
        void on(Used x);
    }

    private static void whatAnImageKeeps() {
        Deed[] deeds = {x -> x.change(2, 1, 0), x -> x.set(1, 998), x -> x.call(0), Used::back, x -> x.go(1), x -> x.raise(2), Used::undo,
            Used::forget, x -> x.see(2, 1, 4, 2), AllEdges::otherSeen, AllEdges::allBack, AllEdges::muchMore};
        for (int number = 0; number < deeds.length; number++) {
            Used x = States.rich();
            x.image();
            Used twin = States.rich();
            deeds[number].on(x);
            Due.is("restore() behind deed " + number, x.restore(), 2);
            Due.is("digest() behind deed " + number, x.digest(), twin.digest());
            for (int back = 0; back < 10; back++) {
                Due.is("undo() behind deed " + number, x.undo(), twin.undo());
                Due.is("digest() behind deed " + number, x.digest(), twin.digest());
            }
        }
        sightsOfAnImage();
        whatAnImageDoesNotKeep();
    }

    private static void sightsOfAnImage() {
        Used x = Due.read(";c0920c0920");
        int[][] kept = {{0, 0, 0}, {0, 3, 0}, {1, 2, 2}};
        int[][] other = {{1, 0, 0}, {0, 2, 0}, {0, 3, 1}};
        for (int number = 0; number < kept.length; number++) {
            x.forget();
            x.see(0, kept[number][0], kept[number][1], kept[number][2]);
            int[] sorts = {x.pad(0, 0, 5), x.pad(0, 1, 5)};
            x.image();
            x.forget();
            x.see(0, other[number][0], other[number][1], other[number][2]);
            Due.is("whether others are SEEN now", x.pad(0, 0, 5) == sorts[0] && x.pad(0, 1, 5) == sorts[1] ? 1 : 0, 0);
            x.restore();
            Due.is("count(5)", x.count(5), 1);
            Due.is("SORTS of PAD 0", x.pad(0, 0, 5), sorts[0]);
            Due.is("SORTS of PAD 1", x.pad(0, 1, 5), sorts[1]);
        }
    }

    /** As many as were, but of other PADS, with other TYPES, and that did other things. */
    private static void otherSeen(Used x) {
        x.forget();
        x.see(0, 0, 4, 0);
        x.see(0, 0, 4, 0);
        x.see(0, 0, 4, 0);
    }

    private static void allBack(Used x) {
        for (int back = 0; back < 30; back++) {
            x.undo();
        }
    }

    private static void muchMore(Used x) {
        for (int value = 0; value < 70; value++) {
            x.set(value % 4, value);
        }
        for (int many = 0; many < 6; many++) {
            x.see(0, 0, many % 5, 1);
            x.call(many % 3);
        }
    }

    private static void whatAnImageDoesNotKeep() {
        Used x = States.rich();
        x.letter('+');
        Due.is("restore()", x.restore(), 2);
        Due.is("letters of THE PAGE", x.count(6), 3);
        Due.is("how often a TEXT was read", x.count(7), 1);
        x.blank();
        x.restore();
        Due.is("letters of THE PAGE", x.count(6), 0);
        // restore() itself is not what can be taken back.
        Due.is("what can be taken back", x.count(3), 5);
    }

    private static void firstRefusals() {
        Used full = States.full();
        Due.is("letter: OUTSIDE ahead of FULL", full.letter(0), OUTSIDE);
        Due.is("row: UNKNOWN ahead of OUTSIDE", full.row(0, 10, 6), UNKNOWN);
        Due.is("pad: UNKNOWN ahead of OUTSIDE", full.pad(2, 0, 7), UNKNOWN);
        Due.is("as: UNKNOWN ahead of OUTSIDE", full.as(2, 0, 5), UNKNOWN);
        Due.is("frame: UNKNOWN ahead of OUTSIDE", full.frame(8, 12), UNKNOWN);
        Due.is("call: UNKNOWN ahead of FULL", full.call(3), UNKNOWN);
        Due.is("change: UNKNOWN ahead of OUTSIDE", full.change(2, 0, 5), UNKNOWN);
        Due.is("see: UNKNOWN ahead of OUTSIDE", full.see(2, 0, 5, 0), UNKNOWN);
        Due.is("see: UNKNOWN ahead of FULL", full.see(2, 0, 0, 0), UNKNOWN);
        Due.is("see: OUTSIDE ahead of FULL", full.see(0, 0, 0, 3), OUTSIDE);
        Used none = new Used();
        Due.is("go: OUTSIDE ahead of STATE", none.go(0), OUTSIDE);
        Due.is("set: UNKNOWN ahead of OUTSIDE", none.set(4, 1000), UNKNOWN);
        Due.is("set: UNKNOWN ahead of STATE", none.set(4, 0), UNKNOWN);
        Due.is("set: OUTSIDE ahead of STATE", none.set(0, 1000), OUTSIDE);
        Due.is("raise: OUTSIDE ahead of STATE", none.raise(5), OUTSIDE);
        Due.is("search: OUTSIDE ahead of STATE", none.search(0, 3), OUTSIDE);
        Due.is("search: OUTSIDE ahead of STATE", none.search(5, 0), OUTSIDE);
        Due.is("drawn: OUTSIDE ahead of STATE", none.drawn(100, 0, 0), OUTSIDE);
        Due.is("drawn: OUTSIDE ahead of STATE", none.drawn(1, -1, 0), OUTSIDE);
        Due.is("drawn: OUTSIDE ahead of STATE", none.drawn(1, 0, 3), OUTSIDE);
    }

    private static void refusalsByName() {
        Due.is("NONE", N, -1);
        Due.is("UNKNOWN", new Used().call(0), -101);
        Due.is("OUTSIDE", new Used().count(8), -102);
        Due.is("STATE", new Used().undo(), -103);
        Due.is("FULL", States.full().letter(1), -104);
        Due.is("UNKNOWN", UNKNOWN, -101);
        Due.is("OUTSIDE", OUTSIDE, -102);
        Due.is("STATE", STATE, -103);
        Due.is("FULL", FULL, -104);
    }

    private static void refusalsChangeNothing() {
        Refusals.in(States::full, refusals -> {
            refusals.is("letter", x -> x.letter(1), FULL);
            refusals.is("text", Used::text, STATE);
            refusals.is("call", x -> x.call(0), FULL);
            refusals.is("call", x -> x.call(-1), UNKNOWN);
            refusals.is("go", x -> x.go(10), OUTSIDE);
            refusals.is("set", x -> x.set(4, 1), UNKNOWN);
            refusals.is("set", x -> x.set(0, -1), OUTSIDE);
            refusals.is("raise", x -> x.raise(-1), OUTSIDE);
            refusals.is("raise", x -> x.raise(4), N);
            refusals.is("change", x -> x.change(0, 1, 1), UNKNOWN);
            refusals.is("change", x -> x.change(0, 0, -1), OUTSIDE);
            refusals.is("see", x -> x.see(0, 0, 0, 0), FULL);
            refusals.is("drawn", x -> x.drawn(0, 0, 0), OUTSIDE);
        });
        Refusals.in(States.WITHOUT_TEXT, refusals -> {
            refusals.is("set", x -> x.set(0, 1), STATE);
            refusals.is("back", Used::back, STATE);
            refusals.is("raise", x -> x.raise(0), STATE);
            refusals.is("undo", Used::undo, STATE);
            refusals.is("image", Used::image, STATE);
            refusals.is("restore", Used::restore, STATE);
            refusals.is("drawn", x -> x.drawn(1, 1, 1), STATE);
        });
    }

    private static void image() {
        Used x = Due.read("s00;");
        for (int frames = 0; frames <= 8; frames++) {
            Due.is("image()", x.image(), frames);
            x.set(1, 900 + frames);
            Due.is("restore()", x.restore(), frames);
            Due.is("register(1)", x.register(1), frames == 0 ? 0 : 100 + frames - 1);
            x.set(1, 100 + frames);
            x.call(0);
        }
        // One: the ones ahead of it are no more.
        Due.is("image()", x.image(), 8);
        x.back();
        x.back();
        Due.is("image()", x.image(), 6);
        Due.is("restore()", x.restore(), 6);
        x.call(0);
        Due.is("restore()", x.restore(), 6);
        Due.is("nothing is done by image() nor restore()", x.count(3), 19);
    }

    private static void refusedImage() {
        Refusals.in(States.WITHOUT_TEXT, refusals -> refusals.is("image() without a TEXT", Used::image, STATE));
        Due.is("image() with a TEXT", Due.read(";").image(), 0);
    }

    private static void restore() {
        Used x = States.rich();
        Due.is("restore()", x.restore(), 2);
        Due.is("what can be taken back", x.count(3), 5);
        Due.is("what is SEEN", x.count(5), 2);
        Due.is("register(2)", x.register(2), 0);
        Due.is("KIND", x.pad(2, 0, 0), 3);
        Due.is("finished(0)", x.finished(0), 10);
        long ahead = x.digest();
        for (int times = 1; times <= 3; times++) {
            Due.is("undo()", x.undo(), 4);
            x.forget();
            x.call(2);
            Due.is("restore() again", x.restore(), 2);
            Due.is("digest()", x.digest(), ahead);
        }
        // It goes on: the IMAGE stays as it is.
        x.set(0, 5);
        Due.is("undo()", x.undo(), 5);
        Due.is("digest()", x.digest(), ahead);
        thirtyInTheImage();
    }

    private static void thirtyInTheImage() {
        Used x = Due.read(";");
        for (int value = 1; value <= 44; value++) {
            x.set(0, value);
        }
        x.image();
        allBack(x);
        for (int value = 1; value <= 17; value++) {
            x.set(0, 100 + value);
        }
        x.restore();
        for (int back = 1; back <= 30; back++) {
            Due.is("undo()", x.undo(), 30 - back);
            Due.is("register(0)", x.register(0), 44 - back);
        }
        Due.is("undo()", x.undo(), STATE);
    }

    private static void refusedRestore() {
        Refusals.in(States.WITHOUT_TEXT, refusals -> refusals.is("restore() without a TEXT", Used::restore, STATE));
        Refusals.in(() -> Due.read(States.TEXT), refusals -> refusals.is("restore() of none", Used::restore, STATE));
        Refusals.in(() -> {
            Used x = States.rich();
            x.blank();
            Due.write(x, ";a0900");
            x.text();
            x.call(0);
            x.set(0, 3);
            return x;
        }, refusals -> refusals.is("restore() with another TEXT since", Used::restore, STATE));
        anotherTextOrNone();
    }

    private static void anotherTextOrNone() {
        Used x = Due.read(";");
        x.image();
        Due.write(x, ";;");
        Due.is("a page that is none", x.text(), STATE);
        Due.is("restore()", x.restore(), 0);
        x.blank();
        Due.write(x, ";");
        Due.is("restore() ahead of text()", x.restore(), 0);
        Due.is("text()", x.text(), 1);
        Due.is("restore() behind text()", x.restore(), STATE);
        x.call(0);
        Due.is("image()", x.image(), 1);
        Due.is("restore()", x.restore(), 1);
    }

    private static void countOfText() {
        Due.is("count(0) of none", new Used().count(0), 0);
        Due.is("count(1) of none", new Used().count(1), 0);
        String pad = "c0000";
        for (int functions = 1; functions <= 3; functions++) {
            for (int pads = 0; pads <= 3; pads++) {
                Used x = Due.read((";" + pad.repeat(pads)) + ("/;" + pad.repeat(pads)).repeat(functions - 1));
                Due.is("count(0)", x.count(0), functions);
                Due.is("count(1)", x.count(1), functions * pads);
            }
        }
        Due.is("count(1)", Due.read(";" + pad + "/;/;" + pad + pad).count(1), 3);
    }

    private static void countOfDone() {
        Used x = Due.read(";");
        for (int many = 0; many <= 40; many++) {
            Due.is("count(2)", x.count(2), Math.min(many, 8));
            Due.is("count(3)", x.count(3), Math.min(many, 30));
            if (many < 8) {
                x.call(0);
            } else {
                x.set(0, many);
            }
        }
    }

    private static void countOfSaving() {
        String[] texts = {";", "u0;", "s00;", "s00;/s00;/s00;", "+9s35;", "+9s00u0;", "s00+9u0;", "s00s11+1u0+1u1;", "s00+1u0+1s00;/;/+5s20+1u2;",
            "ms00+1b;", "+1;/+9;", "s00s01s02;"};
        int[] due = {0, 0, 10, 30, 1, 0, 9, 2, 10, 1, 0, 10};
        for (int number = 0; number < texts.length; number++) {
            Due.is("count(4) of " + texts[number], Due.read(texts[number]).count(4), due[number]);
        }
    }

    private static void countOfOthers() {
        Used x = new Used();
        for (int texts = 0; texts <= 3; texts++) {
            Due.is("count(7)", x.count(7), texts);
            Due.write(x, ";c0900");
            Due.is("count(6)", x.count(6), 6);
            x.text();
        }
        for (int many = 1; many <= 7; many++) {
            x.see(0, 0, 0, 0);
            Due.is("count(5)", x.count(5), Math.min(many, 6));
        }
        for (int many = 1; many <= 101; many++) {
            x.letter(';');
            Due.is("count(6)", x.count(6), Math.min(many, 100));
        }
        Due.is("text()", x.text(), STATE);
        Due.is("count(7)", x.count(7), 4);
        Due.is("count(6)", x.count(6), 100);
    }

    private static void refusedCount() {
        Refusals.in(States.WITHOUT_TEXT, refusals -> Args.eachNot(0, 7, what ->
            refusals.is("count(" + what + ")", x -> x.count(what), OUTSIDE)));
        Refusals.in(States.WITH_TEXT, refusals -> Args.eachNot(0, 7, what ->
            refusals.is("count(" + what + ")", x -> x.count(what), OUTSIDE)));
    }

    /** The rest, as a long, of what the numbers come to without wrapping. */
    private static long wrapped(List<Integer> numbers) {
        BigInteger h = BigInteger.valueOf(1399);
        for (int number : numbers) {
            h = h.multiply(BigInteger.valueOf(31)).add(BigInteger.valueOf(number));
        }
        return h.longValue();
    }

    private static void digestWraps() {
        List<Integer> numbers = new ArrayList<>(Collections.nCopies(13, 0));
        Due.is("digest() of a new object", new Used().digest(), wrapped(numbers));
        // Five numbers ahead of the letters, eight behind them: it wraps, and is negative now and then.
        Used x = new Used();
        int negative = 0;
        for (int many = 1; many <= 100; many++) {
            x.letter(127 - many);
            numbers.add(4 + many, 127 - many);
            numbers.set(numbers.size() - 2, many);
            long due = wrapped(numbers);
            negative += due < 0 ? 1 : 0;
            Due.is("digest() of " + many + " letters", x.digest(), due);
        }
        Due.is("whether some are negative", negative > 20 ? 1 : 0, 1);
    }

    private static void digestOfFunctions() {
        digestIs(Due.read(";"), "");
        digestIs(Due.read("s00m+9u0;/;c1234"), "");
        Used x = Due.read("s35mmm;c0000a9949f1230/+4s00+5u0;/u0;g0021");
        x.see(0, 1, 4, 2);
        x.see(2, 0, 2, 0);
        x.change(0, 2, 4);
        digestIs(x, "");
    }

    private static void digestOfFrames() {
        for (int frames = 0; frames <= 8; frames++) {
            Used x = Due.read("s00s15+3s01+6u0;/s22s33;");
            for (int many = 0; many < frames; many++) {
                x.set(many % 4, 999 - many);
                x.call(many % 2);
                x.go(1 + many);
            }
            digestIs(x, "");
        }
    }

    private static void digestOfSearch() {
        digestIs(new Used(), "");
        Used x = Due.read(";c0900u0930/;f0900g0910");
        digestIs(x, "");
        x.call(0);
        x.call(1);
        digestIs(x, "");
    }

    private static void digestOfTheRest() {
        digestIs(fourFinished(), "");
        Used x = fourFinished();
        Due.write(x, "~;");
        x.letter(1);
        x.see(0, 0, 0, 0);
        digestIs(x, "~;\u0001");
        x = fourFinished();
        x.undo();
        Due.write(x, ";");
        x.text();
        digestIs(x, "");
    }

    private static Used fourFinished() {
        Used x = Due.read(";f0900f0900a0900/;f0900");
        x.call(0);
        x.call(1);
        x.call(1);
        Due.is("raise()", x.raise(2), 2);
        Due.is("finished(NONE)", x.finished(N), 4);
        return x;
    }

    /** By what the other calls tell. */
    private static void digestIs(Used x, String page) {
        List<Integer> numbers = new ArrayList<>();
        for (int function = 0; function < x.count(0); function++) {
            addFunction(x, function, numbers);
        }
        for (int frame = 0; frame < x.count(2); frame++) {
            for (int what = 0; what < 12; what++) {
                numbers.add(x.frame(frame, what));
            }
        }
        for (int register = 0; register < 4; register++) {
            numbers.add(x.register(register));
        }
        for (int number = 0; number < 15 && x.count(0) > 0; number++) {
            numbers.add(x.search(number / 3, number % 3));
        }
        if (x.count(0) > 0) {
            numbers.add(x.loose());
        }
        for (int number = N; number < x.finished(N); number++) {
            numbers.add(x.finished(number));
        }
        page.chars().forEach(numbers::add);
        for (int what = 0; what < 8; what++) {
            numbers.add(x.count(what));
        }
        Due.is("digest()", x.digest(), wrapped(numbers));
    }

    private static void addFunction(Used x, int function, List<Integer> numbers) {
        for (int number = 0; number < 60; number++) {
            numbers.add(x.row(function, number / 6, number % 6));
        }
        for (int pad = 0; pad < 3 && x.pad(function, pad, 0) >= 0; pad++) {
            for (int what = 0; what < 7; what++) {
                numbers.add(x.pad(function, pad, what));
            }
        }
    }
}
