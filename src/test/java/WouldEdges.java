import java.util.function.Supplier;

/** Promises 18 to 21, "what would be": search(), loose(), finished(), same(). */
final class WouldEdges {
    private static final String SEARCH = "Promise 18", LOOSE = "Promise 19", FINISHED = "Promise 20", SAME = "Promise 21";
    private static final int N = RowUnwinder.NONE, UNKNOWN = RowUnwinder.UNKNOWN, OUTSIDE = RowUnwinder.OUTSIDE;
    private static final int STATE = RowUnwinder.STATE;

    private WouldEdges() {
    }

    static void run() {
        Due.sentence(SEARCH, "Who would CATCH a TYPE: what = 0 the FRAME (this is FAR), 1 the PAD, 2 how many would FINISH;",
            WouldEdges::search);
        Due.sentence(SEARCH, "NONE: nobody.", WouldEdges::searchNobody);
        Due.sentence(SEARCH, "OUTSIDE: type (0 to 4), what; STATE: no TEXT.", WouldEdges::refusedSearch);
        Due.sentence(LOOSE, "LOOSE.", WouldEdges::loose);
        Due.sentence(LOOSE, "STATE: no TEXT.", WouldEdges::refusedLoose);
        Due.sentence(FINISHED, "What FINISHED when something was THROWN (and CAUGHT) latest:", WouldEdges::latestFinished);
        Due.sentence(FINISHED, "number = NONE: how many; else which, from 0, in order:", WouldEdges::finishedInOrder);
        Due.sentence(FINISHED, "10 times the FUNCTION, and the PAD.", WouldEdges::tenTimesTheFunction);
        Due.sentence(FINISHED, "UNKNOWN: there are not so many.", WouldEdges::refusedFinished);
        Due.sentence(SAME, "Whether two FUNCTIONS have the same SAVED where at each ADDRESS (1, 0).", WouldEdges::same);
        Due.sentence(SAME, "UNKNOWN: one, other.", WouldEdges::refusedSame);
    }

    private static void search() {
        for (int far = 0; far <= 7; far++) {
            for (int pad = 0; pad < 3; pad++) {
                Used x = Due.read(";" + "f0900".repeat(pad) + "a0900/;f0900g0940f0900");
                x.call(0);
                for (int above = 0; above < far; above++) {
                    x.call(1);
                }
                long ahead = x.digest();
                Told.search(x, 0, far, pad, 3 * far + pad);
                Due.is("nothing is done by that", x.digest(), ahead);
                Told.search(x, 4, 0, far == 0 ? pad : 1, far == 0 ? pad : 1);
                Due.is("raise(0)", x.raise(0), far);
                Due.is("finished(NONE)", x.finished(N), 3 * far + pad);
            }
        }
    }

    private static void searchNobody() {
        Used x = Due.read(";f0900/;c0930/;");
        for (int type = 0; type < 5; type++) {
            Told.search(x, type, N, N, N);
        }
        x.call(0);
        x.call(2);
        for (int type = 0; type < 5; type++) {
            Told.search(x, type, N, N, N);
        }
        x.call(1);
        Told.search(x, 2, N, N, N);
        Told.search(x, 3, 0, 0, 0);
        Told.search(x, 4, N, N, N);
    }

    private static void refusedSearch() {
        Refusals.in(States.WITHOUT_TEXT, refusals -> Args.each(5, 3, 1, 1, (type, what, none, neither) -> {
            int due = Args.isNot(type, 5) || Args.isNot(what, 3) ? OUTSIDE : STATE;
            refusals.is("search(" + type + ", " + what + ") without a TEXT", x -> x.search(type, what), due);
        }));
        for (int full = 0; full < 2; full++) {
            Refusals.in(full == 1 ? States::full : States::rich, refusals -> Args.each(5, 3, 1, 1, (type, what, none, neither) -> {
                if (Args.isNot(type, 5) || Args.isNot(what, 3)) {
                    refusals.is("search(" + type + ", " + what + ")", x -> x.search(type, what), OUTSIDE);
                }
            }));
        }
        // There is none, but there is a TEXT.
        Due.is("search(0, 0) without a FRAME", Due.read(";").search(0, 0), N);
    }

    private static void loose() {
        for (int bits = 0; bits < 32; bits++) {
            StringBuilder text = new StringBuilder(";");
            int pads = 0;
            for (int type = 0; type < 5; type++) {
                if ((bits >> type & 1) == 0 && pads < 3) {
                    text.append("c09").append(type).append(0);
                    pads++;
                }
            }
            if (5 - Integer.bitCount(bits) <= 3) {
                Used x = Due.read(text.toString());
                Due.is("loose() without a FRAME", x.loose(), 31);
                x.call(0);
                Due.is("loose() of " + text, x.loose(), bits);
                Due.is("count(3)", x.count(3), 1);
            }
        }
        Used x = Due.read(";a0000");
        x.call(0);
        Due.is("loose()", x.loose(), 0);
        x.go(1);
        Due.is("loose() behind its ADDRESS", x.loose(), 31);
    }

    private static void refusedLoose() {
        Refusals.in(States.WITHOUT_TEXT, refusals -> refusals.is("loose() without a TEXT", Used::loose, STATE));
        Due.is("loose() with a TEXT", Due.read(";").loose(), 31);
    }

    private static void latestFinished() {
        Used x = Due.read(";f0900f0900c0930/;a0900f0900/;c0930f0900");
        Told.finished(x);
        x.call(0);
        Told.finished(x);
        x.raise(3);
        Told.finished(x, 0, 1);
        Due.is("raise(2), which nobody CATCHES", x.raise(2), N);
        Told.finished(x, 0, 1);
        Due.is("raise(5)", x.raise(5), OUTSIDE);
        x.set(0, 1);
        x.go(1);
        x.call(2);
        x.back();
        x.change(0, 1, 1);
        x.search(0, 2);
        x.drawn(99, 1, 0);
        Told.finished(x, 0, 1);
        x.call(1);
        x.raise(0);
        Told.finished(x);
        x.call(2);
        x.raise(2);
        Told.finished(x, 21);
    }

    /** As many as there can be: of seven FRAMES all PADS, of the last one all but the PAD that CATCHES. */
    private static void finishedInOrder() {
        Used x = Due.read(";f0900g0940f0910/;f0900f0900a0900/;g0910g0920g0930");
        int[] due = new int[23];
        x.call(1);
        for (int many = 0; many < 7; many++) {
            x.call(many % 2 * 2);
        }
        for (int number = 0; number < 21; number++) {
            due[number] = (6 - number / 3) % 2 * 20 + number % 3;
        }
        due[21] = 10;
        due[22] = 11;
        Due.is("raise(0)", x.raise(0), 7);
        Told.finished(x, due);
    }

    private static void tenTimesTheFunction() {
        for (int function = 0; function < 3; function++) {
            for (int pad = 0; pad < 3; pad++) {
                Used x = Due.read(";c0900c0900c0900/;c0900c0900c0900/;c0900c0900c0900");
                x.change(function, pad, 2);
                x.call((function + 1) % 3);
                x.call(function);
                x.change((function + 1) % 3, 0, 1);
                Due.is("raise(4)", x.raise(4), 1);
                Told.finished(x, 10 * function + pad);
            }
        }
    }

    private static void refusedFinished() {
        refusedFinished(Used::new, 0);
        refusedFinished(() -> Due.read(States.TEXT), 0);
        refusedFinished(States::rich, 1);
        refusedFinished(States::full, 0);
        Due.is("finished(NONE)", States.rich().finished(N), 1);
    }

    private static void refusedFinished(Supplier<Used> state, int many) {
        Refusals.in(state, refusals -> {
            for (int number : new int[] {many, many + 1, 23, 24, -2, -3, Integer.MIN_VALUE, Integer.MAX_VALUE}) {
                refusals.is("finished(" + number + ") of " + many, x -> x.finished(number), UNKNOWN);
            }
        });
    }

    private static void same(String text, int due) {
        Used x = Due.read(text);
        Due.is("same(0, 1) of " + text, x.same(0, 1), due);
        Due.is("same(1, 0) of " + text, x.same(1, 0), due);
        Due.is("same(0, 0) of " + text, x.same(0, 0), 1);
        Due.is("same(1, 1) of " + text, x.same(1, 1), 1);
    }

    private static void same() {
        same(";/;", 1);
        same("s00;/s01;", 0);
        same("s00;/s10;", 0);
        same("s35;/;", 0);
        same("s00u0;/;", 1);
        // The first and the last ADDRESS count, and no other thing that row() tells.
        same("s00+1u0;/;", 0);
        same("+9s30;/;", 0);
        same("+9s30;/+8s30;", 0);
        same("+9s30;/+1+8s30;", 1);
        same("m;/;", 1);
        same("+5u0;/;", 1);
        same("s00+1s00;/s00;", 1);
        same("s01ms00b;/s01;", 1);
        same(";c0000/;", 1);
        same("s00s11s22s33;/s33s22s11s00;", 1);
        Used x = Due.read("s00;/s01;/s00;");
        Due.is("same(0, 2)", x.same(0, 2), 1);
        Due.is("same(2, 0)", x.same(2, 0), 1);
        Due.is("same(1, 2)", x.same(1, 2), 0);
    }

    private static void refusedSame() {
        Refusals.in(States.WITHOUT_TEXT, refusals -> Args.each(3, 3, 1, 1, (one, other, none, neither) ->
            refusals.is("same(" + one + ", " + other + ") without a TEXT", x -> x.same(one, other), UNKNOWN)));
        Refusals.in(States.WITH_TEXT, refusals -> Args.each(3, 3, 1, 1, (one, other, none, neither) -> {
            if (States.noFunction(one) || States.noFunction(other)) {
                refusals.is("same(" + one + ", " + other + ")", x -> x.same(one, other), UNKNOWN);
            }
        }));
    }
}
