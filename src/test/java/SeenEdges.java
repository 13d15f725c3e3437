import java.math.BigInteger;

/** "Terms" on SEEN, SORTS, ASK and DRAWN, and promises 22 to 24: see(), forget(), drawn(). */
final class SeenEdges {
    private static final String TERMS = "Terms", SEE = "Promise 22", FORGET = "Promise 23", DRAWN = "Promise 24";
    private static final int N = RowUnwinder.NONE, UNKNOWN = RowUnwinder.UNKNOWN, OUTSIDE = RowUnwinder.OUTSIDE;
    private static final int STATE = RowUnwinder.STATE, FULL = RowUnwinder.FULL, MAX = Integer.MAX_VALUE;

    // KINDS as bits.
    private static final int C = 1, A = 2, F = 4, U = 8, G = 16;

    private SeenEdges() {
    }

    static void run() {
        Due.sentence(TERMS, "SEEN (6 at most):", SeenEdges::sixAtMost);
        Due.sentence(TERMS, "of a PAD, of which it is not known of which KIND it is, what it did when a TYPE was THROWN at one of its ADDRESSES:",
            SeenEdges::seenOfOnePad);
        Due.sentence(TERMS, "0 nothing, 1 it CAUGHT it, 2 it FINISHED.", SeenEdges::whatItDid);
        Due.sentence(TERMS, "SORTS (KINDS 0 to 4) it can be of, its TYPE as it is, so that all that is SEEN of it is so: as bits.",
            SeenEdges::sorts);
        Due.sentence(TERMS, "ASK for a PAD: which TYPE to throw next, so that fewest of these are left at worst, by what it does:",
            SeenEdges::ask);
        Due.sentence(TERMS, "of like ones the least;", SeenEdges::askTheLeast);
        Due.sentence(TERMS, "none, if there are none.", SeenEdges::askNone);
        Due.sentence(SEE, "It is SEEN: how much is.", SeenEdges::howMuchIsSeen);
        Due.sentence(SEE, "UNKNOWN: function, pad; OUTSIDE: type (0 to 4), did (0 to 2); FULL.", SeenEdges::refusedSee);
        Due.sentence(FORGET, "Nothing is SEEN any more: how much was.", SeenEdges::forget);
        runDrawn();
    }

    private static void runDrawn() {
        Due.sentence(TERMS, "DRAWN by a SEED, as they would be: so many times a DRAW of 4:", SeenEdges::drawnAsItWouldBe);
        Due.sentence(TERMS, "0: a FUNCTION by a DRAW of how many there are is called (if there are not eight FRAMES; it is drawn first);",
            SeenEdges::drawnCalls);
        Due.sentence(TERMS, "1: the latest FRAME goes on by one ADDRESS (if there is one, below 9);", SeenEdges::drawnGoesOn);
        Due.sentence(TERMS, "2: a REGISTER by a DRAW of 4 is set to a DRAW of 1000;", SeenEdges::drawnSets);
        Due.sentence(TERMS, "3: a TYPE by a DRAW of 5 is THROWN, if somebody CATCHES it: how often somebody CAUGHT; how many FRAMES there are in the end.",
            SeenEdges::drawnThrows);
        Due.sentence(TERMS, "DRAWS: the next SEED each time: 1103515245 times it and 12345, its rest by 2 to the 31;", SeenEdges::nextSeeds);
        Due.sentence(TERMS, "then that by 65536 (rounded down), its rest.", SeenEdges::rests);
        Due.sentence(DRAWN, "DRAWN: what = 0 how often, 1 how many FRAMES, 2 the SEED then.", SeenEdges::whatIsDrawn);
        Due.sentence(DRAWN, "OUTSIDE: times (1 to 99), seed (0 at least), what;", SeenEdges::drawnOutside);
        Due.sentence(DRAWN, "STATE: no TEXT.", SeenEdges::drawnWithoutText);
    }

    private static void sixAtMost() {
        Used x = Due.read(";c0900c0900c0900/;c0900");
        Due.is("count(5)", x.count(5), 0);
        for (int many = 1; many <= 6; many++) {
            Due.is("see() of " + many, x.see(0, many % 3, 4, 0), many);
            Due.is("count(5)", x.count(5), many);
        }
        Due.is("a seventh, of a PAD of which nothing is SEEN", x.see(1, 0, 0, 0), FULL);
        Due.is("count(5)", x.count(5), 6);
        Due.is("SORTS", x.pad(1, 0, 5), 31);
    }

    private static void seenOfOnePad() {
        Used x = Due.read(";a0900a0900/;a0900a0900a0900");
        x.see(1, 0, 0, 2);
        int[][] pads = {{0, 0}, {0, 1}, {1, 0}, {1, 1}, {1, 2}};
        for (int[] pad : pads) {
            Due.is("SORTS of " + pad[0] + ", " + pad[1], x.pad(pad[0], pad[1], 5), pad[0] == 1 && pad[1] == 0 ? F : 31);
        }
        // What it is, and that it was changed, makes no difference.
        Due.is("change()", x.change(1, 0, 4), 1);
        Due.is("SORTS", x.pad(1, 0, 5), F);
        Due.is("KIND", x.pad(1, 0, 0), 4);
        // Like PADS of other FUNCTIONS, by their numbers.
        x.see(0, 1, 0, 1);
        Due.is("SORTS", x.pad(0, 1, 5), C | A | U | G);
        Due.is("SORTS", x.pad(1, 1, 5), 31);
    }

    /** By the PAD's own TYPE and one that is THROWN: the KINDS of which it would have done nothing, CAUGHT, FINISHED. */
    private static int[] deeds(int own, int type) {
        if (type == own) {
            return new int[] {0, C | A | U | G, F};
        }
        return type < own ? new int[] {C | U, A, F | G} : new int[] {C, A | U, F | G};
    }

    private static void whatItDid() {
        for (int own = 0; own < 5; own++) {
            for (int type = 0; type < 5; type++) {
                for (int did = 0; did < 3; did++) {
                    Used x = Due.read(";c09" + own + "0");
                    x.see(0, 0, type, did);
                    Due.is("SORTS with TYPE " + own + " when " + type + " did " + did, x.pad(0, 0, 5), deeds(own, type)[did]);
                }
            }
        }
    }

    private static void sorts() {
        for (int own = 0; own < 5; own++) {
            for (int pair = 0; pair < 225; pair++) {
                int[] types = {pair % 5, pair / 5 % 5};
                int[] dids = {pair / 25 % 3, pair / 75};
                Used x = Due.read(";f09" + own + "0");
                Due.is("SORTS ahead of all", x.pad(0, 0, 5), 31);
                x.see(0, 0, types[0], dids[0]);
                x.see(0, 0, types[1], dids[1]);
                Due.is("SORTS of two SEEN, " + pair, x.pad(0, 0, 5), deeds(own, types[0])[dids[0]] & deeds(own, types[1])[dids[1]]);
            }
        }
    }

    private static void asked(Used x, int sorts, int ask) {
        Due.is("SORTS", x.pad(0, 0, 5), sorts);
        Due.is("ASK", x.pad(0, 0, 6), ask);
    }

    private static void ask() {
        // TYPE 0: at 0 four would be left, above it two at worst.
        asked(Due.read(";c0900"), 31, 1);
        // C and U are told apart by greater ones only, F and G by its own.
        Used x = Due.read(";c0920");
        x.see(0, 0, 1, 0);
        asked(x, C | U, 3);
        x.forget();
        x.see(0, 0, 0, 2);
        asked(x, F | G, 2);
        x.forget();
        x.see(0, 0, 4, 1);
        asked(x, A | U, 0);
        // C, A, U, G: below its own two at worst (C, U), at its own four, above it two (A, U).
        x.forget();
        x.see(0, 0, 2, 1);
        asked(x, C | A | U | G, 0);
        x = Due.read(";c0900");
        x.see(0, 0, 0, 1);
        asked(x, C | A | U | G, 1);
    }

    private static void askTheLeast() {
        for (int own = 1; own < 5; own++) {
            asked(Due.read(";c09" + own + "0"), 31, 0);
        }
        // Nothing tells C from U with TYPE 4, nor A from U with TYPE 0.
        Used x = Due.read(";c0940");
        x.see(0, 0, 3, 0);
        asked(x, C | U, 0);
        x = Due.read(";c0900");
        x.see(0, 0, 1, 1);
        asked(x, A | U, 0);
        // One alone is left whatever is thrown.
        x.see(0, 0, 0, 2);
        x.forget();
        x.see(0, 0, 0, 2);
        asked(x, F, 0);
        x = Due.read(";c0930");
        x.see(0, 0, 0, 0);
        x.see(0, 0, 4, 1);
        asked(x, U, 0);
    }

    private static void askNone() {
        Used x = Due.read(";c0920c0920");
        x.see(0, 0, 2, 0);
        asked(x, 0, N);
        x.forget();
        x.see(0, 0, 4, 1);
        x.see(0, 0, 4, 2);
        asked(x, 0, N);
        Due.is("ASK for another PAD", x.pad(0, 1, 6), 0);
    }

    private static void howMuchIsSeen() {
        Used x = Due.read(";c0900/;/;c0900c0900c0940");
        Due.is("see(0, 0, 0, 0)", x.see(0, 0, 0, 0), 1);
        Due.is("see(2, 2, 4, 2)", x.see(2, 2, 4, 2), 2);
        Due.is("the same again", x.see(2, 2, 4, 2), 3);
        Due.is("the contrary", x.see(2, 2, 4, 1), 4);
        Due.is("see(0, 0, 4, 0)", x.see(0, 0, 4, 0), 5);
        Due.is("see(0, 0, 0, 2)", x.see(0, 0, 0, 2), 6);
        Due.is("one more", x.see(0, 0, 0, 0), FULL);
    }

    private static void refusedSee() {
        Refusals.in(States.WITHOUT_TEXT, refusals -> Args.each(3, 3, 5, 3, (function, pad, type, did) ->
            refusals.is("see", x -> x.see(function, pad, type, did), UNKNOWN)));
        Refusals.in(States.WITH_TEXT, refusals -> Args.each(3, 3, 5, 3, (function, pad, type, did) -> {
            if (States.noPad(function, pad)) {
                refusals.is("see of no PAD", x -> x.see(function, pad, type, did), UNKNOWN);
            } else if (Args.isNot(type, 5) || Args.isNot(did, 3)) {
                refusals.is("see(" + function + ", " + pad + ", " + type + ", " + did + ")", x -> x.see(function, pad, type, did), OUTSIDE);
            }
        }));
        Refusals.in(States::full, refusals -> {
            refusals.is("a seventh", x -> x.see(0, 0, 0, 0), FULL);
            refusals.is("a seventh", x -> x.see(1, 0, 4, 2), FULL);
            refusals.is("a seventh, outside", x -> x.see(0, 0, 5, 0), OUTSIDE);
            refusals.is("a seventh, outside", x -> x.see(0, 0, 0, 3), OUTSIDE);
            refusals.is("a seventh, unknown", x -> x.see(0, 1, 5, 3), UNKNOWN);
            refusals.is("a seventh, unknown", x -> x.see(2, 0, 0, 0), UNKNOWN);
        });
    }

    private static void forget() {
        Due.is("forget() without a TEXT", new Used().forget(), 0);
        Used x = Due.read(";c0910");
        for (int many = 0; many <= 6; many++) {
            for (int seen = 1; seen <= many; seen++) {
                Due.is("see()", x.see(0, 0, 0, 2), seen);
            }
            Due.is("SORTS", x.pad(0, 0, 5), many == 0 ? 31 : F | G);
            Due.is("forget()", x.forget(), many);
            Due.is("SORTS", x.pad(0, 0, 5), 31);
            Due.is("count(5)", x.count(5), 0);
        }
        Due.is("forget()", x.forget(), 0);
        Due.is("what can be taken back", x.count(3), 0);
    }

    private static long next(long seed) {
        return BigInteger.valueOf(1103515245L).multiply(BigInteger.valueOf(seed)).add(BigInteger.valueOf(12345L))
            .mod(BigInteger.TWO.pow(31)).longValueExact();
    }

    private static int drawn(long seed, int bound) {
        return BigInteger.valueOf(seed).divide(BigInteger.valueOf(65536)).mod(BigInteger.valueOf(bound)).intValueExact();
    }

    /** The least SEED by which DRAWS of these bounds are these. */
    private static int seedOf(int... boundsAndDraws) {
        for (int seed = 0; seed < 100_000_000; seed++) {
            long now = seed;
            boolean all = true;
            for (int draw = 0; draw < boundsAndDraws.length && all; draw += 2) {
                now = (1103515245L * now + 12345L) % 2147483648L;
                all = now / 65536L % boundsAndDraws[draw] == boundsAndDraws[draw + 1];
            }
            if (all) {
                return seed;
            }
        }
        throw new IllegalStateException("no such seed");
    }

    /** What is drawn: how often somebody CAUGHT, how many FRAMES, and the SEED behind so many DRAWS. */
    private static void drawnIs(Used x, int times, int seed, int caught, int frames, int draws) {
        String call = "drawn(" + times + ", " + seed + ", ";
        Due.is(call + "0)", x.drawn(times, seed, 0), caught);
        Due.is(call + "1)", x.drawn(times, seed, 1), frames);
        long end = seed;
        for (int draw = 0; draw < draws; draw++) {
            end = next(end);
        }
        Due.is(call + "2)", x.drawn(times, seed, 2), end);
    }

    private static void drawnAsItWouldBe() {
        Used x = States.rich();
        long ahead = x.digest();
        for (int seed = 0; seed < 40; seed++) {
            x.drawn(99, seed * 1000, seed % 3);
        }
        Due.is("nothing is done by that", x.digest(), ahead);
        Due.is("undo()", x.undo(), 8);
        x = Due.read(";");
        drawnIs(x, 1, seedOf(4, 1), 0, 0, 1);
        drawnIs(x, 1, seedOf(4, 0), 0, 1, 2);
        drawnIs(x, 1, seedOf(4, 2), 0, 0, 3);
        drawnIs(x, 1, seedOf(4, 3), 0, 0, 2);
        drawnIs(x, 2, seedOf(4, 1, 4, 1), 0, 0, 2);
        drawnIs(x, 2, seedOf(4, 1, 4, 0), 0, 1, 3);
    }

    private static void drawnCalls() {
        // Which FUNCTION it is shows by who CATCHES.
        for (int function = 0; function < 3; function++) {
            Used x = Due.read(";c0900/;c0910/;c0920");
            for (int type = 0; type < 3; type++) {
                drawnIs(x, 2, seedOf(4, 0, 3, function, 4, 3, 5, type), function == type ? 1 : 0, 1, 4);
            }
        }
        Used x = Due.read(";/;");
        int seed = seedOf(4, 0, 2, 1, 4, 1);
        for (int many = 0; many <= 8; many++) {
            drawnIs(x, 1, seed, 0, Math.min(8, many + 1), 2);
            drawnIs(x, 2, seed, 0, Math.min(8, many + 1), 3);
            x.call(0);
        }
        Due.is("FRAMES", x.count(2), 8);
        x = Due.read(";");
        drawnIs(x, 1, seedOf(4, 0), 0, 1, 2);
        oneThatIsCalledSaves();
    }

    private static void oneThatIsCalledSaves() {
        Used x = Due.read("s00;a9900/;");
        int seed = seedOf(4, 0, 2, 0);
        x.call(0);
        x.go(9);
        // The new FRAME is at ADDRESS 0, where its PAD is not for: the one below CATCHES.
        drawnIs(x, 2, seedOf(4, 0, 2, 0, 4, 3, 5, 0), 1, 1, 4);
        drawnIs(x, 1, seed, 0, 2, 2);
    }

    private static void drawnGoesOn() {
        int once = seedOf(4, 1, 4, 3, 5, 0);
        int twice = seedOf(4, 1, 4, 1, 4, 3, 5, 0);
        Used x = Due.read(";a9909");
        drawnIs(x, 2, once, 0, 0, 3);
        x.call(0);
        drawnIs(x, 2, once, 0, 1, 3);
        x.go(7);
        drawnIs(x, 2, once, 0, 1, 3);
        drawnIs(x, 3, twice, 1, 1, 4);
        x.go(1);
        drawnIs(x, 2, once, 1, 1, 3);
        drawnIs(x, 3, twice, 1, 1, 4);
        x.go(1);
        drawnIs(x, 2, once, 1, 1, 3);
        drawnIs(x, 3, twice, 1, 1, 4);
        // Only the latest goes on.
        x.call(0);
        drawnIs(x, 2, once, 1, 1, 3);
    }

    private static void drawnSets() {
        Used x = Due.read("s00;a0900");
        for (int register = 0; register < 4; register++) {
            drawnIs(x, 1, seedOf(4, 2, 4, register, 1000, 0), 0, 0, 3);
            drawnIs(x, 2, seedOf(4, 2, 4, register, 1000, 999, 4, 1), 0, 0, 4);
        }
    }

    private static void drawnThrows() {
        for (int type = 0; type < 5; type++) {
            Used x = Due.read(";c09" + type + "0/;");
            for (int thrown = 0; thrown < 5; thrown++) {
                int seed = seedOf(4, 3, 5, thrown);
                drawnIs(x, 1, seed, 0, 0, 2);
                x.call(0);
                x.call(1);
                drawnIs(x, 1, seed, thrown == type ? 1 : 0, thrown == type ? 1 : 2, 2);
                x.back();
                x.back();
            }
        }
        // It goes on at the PAD: there it CATCHES no more.
        Used x = Due.read(";a0009");
        x.call(0);
        drawnIs(x, 2, seedOf(4, 3, 5, 0, 4, 3, 5, 0), 1, 1, 4);
        x.change(0, 0, 2);
        drawnIs(x, 1, seedOf(4, 3, 5, 0), 0, 1, 2);
    }

    private static void nextSeeds() {
        Used x = Due.read(";");
        int[] seeds = {0, 1, 2, 3, 65535, 65536, 1073741823, 1073741824, 1999999999, MAX - 2, MAX - 1, MAX};
        for (int seed : seeds) {
            int kind = drawn(next(seed), 4);
            drawnIs(x, 1, seed, 0, kind == 0 ? 1 : 0, kind == 1 ? 1 : kind == 2 ? 3 : 2);
            Due.is("whether the SEED of " + seed + " is below 2 to the 31", x.drawn(1, seed, 2) >= 0 ? 1 : 0, 1);
        }
        // The product of the first is 12345, of the greatest one far beyond an int.
        Due.is("the SEED behind 0", next(0), 12345);
        Due.is("the SEED behind the greatest one", next(MAX), 1043980748);
    }

    private static void rests() {
        // 65535 of it are rounded down; its rest by 4 is told by how many DRAWS are done.
        Used x = Due.read(";");
        int[] draws = {2, 1, 3, 2};
        for (int seed = 0; seed < 100; seed++) {
            int kind = drawn(next(seed), 4);
            drawnIs(x, 1, seed, 0, kind == 0 ? 1 : 0, draws[kind]);
        }
    }

    private static void whatIsDrawn() {
        Used x = Due.read(";a0900");
        int seed = seedOf(4, 0, 1, 0, 4, 0, 1, 0, 4, 3, 5, 2, 4, 3, 5, 4);
        drawnIs(x, 1, seed, 0, 1, 2);
        drawnIs(x, 2, seed, 0, 2, 4);
        drawnIs(x, 3, seed, 1, 2, 6);
        drawnIs(x, 4, seed, 2, 2, 8);
    }

    private static void drawnOutside() {
        Refusals.in(States.WITH_TEXT, refusals -> {
            for (int times : Args.around(1, 99)) {
                for (int seed : Args.around(0, MAX)) {
                    for (int what : Args.around(0, 2)) {
                        if (times < 1 || times > 99 || seed < 0 || Args.isNot(what, 3)) {
                            refusals.is("drawn(" + times + ", " + seed + ", " + what + ")", x -> x.drawn(times, seed, what), OUTSIDE);
                        }
                    }
                }
            }
        });
        Used x = Due.read(";");
        drawnIs(x, 1, 0, 0, 1, 2);
        Due.is("99 times", x.drawn(99, 0, 1) >= 0 ? 1 : 0, 1);
        Due.is("the greatest SEED", x.drawn(99, MAX, 2) >= 0 ? 1 : 0, 1);
    }

    private static void drawnWithoutText() {
        Refusals.in(States.WITHOUT_TEXT, refusals -> {
            for (int what = 0; what < 3; what++) {
                int told = what;
                refusals.is("drawn without a TEXT", x -> x.drawn(1, 0, told), STATE);
                refusals.is("drawn without a TEXT", x -> x.drawn(99, MAX, told), STATE);
                refusals.is("drawn without a TEXT, outside", x -> x.drawn(0, 0, told), OUTSIDE);
                refusals.is("drawn without a TEXT, outside", x -> x.drawn(100, 0, told), OUTSIDE);
                refusals.is("drawn without a TEXT, outside", x -> x.drawn(1, -1, told), OUTSIDE);
            }
            refusals.is("drawn without a TEXT, outside", x -> x.drawn(1, 0, -1), OUTSIDE);
            refusals.is("drawn without a TEXT, outside", x -> x.drawn(1, 0, 3), OUTSIDE);
        });
    }
}
