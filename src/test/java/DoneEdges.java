/** Promises 11 to 17, "what is done": call(), go(), set(), back(), raise(), change(), undo(). */
final class DoneEdges {
    private static final String CALL = "Promise 11", GO = "Promise 12", SET = "Promise 13", BACK = "Promise 14";
    private static final String RAISE = "Promise 15", CHANGE = "Promise 16", UNDO = "Promise 17";
    private static final int N = RowUnwinder.NONE, UNKNOWN = RowUnwinder.UNKNOWN, OUTSIDE = RowUnwinder.OUTSIDE;
    private static final int STATE = RowUnwinder.STATE, FULL = RowUnwinder.FULL;

    private DoneEdges() {
    }

    static void run() {
        Due.sentence(CALL, "A FUNCTION is called: how many FRAMES.", DoneEdges::call);
        Due.sentence(CALL, "UNKNOWN; FULL: there are eight.", DoneEdges::refusedCall);
        Due.sentence(GO, "The latest FRAME goes on by so many ADDRESSES: its ADDRESS.", DoneEdges::go);
        Due.sentence(GO, "OUTSIDE: by (1 to 9);", DoneEdges::goOutside);
        Due.sentence(GO, "STATE: no FRAME, or it would be above 9.", DoneEdges::goTooFar);
        Due.sentence(SET, "A REGISTER is set: what it was.", DoneEdges::set);
        Due.sentence(SET, "UNKNOWN: register (0 to 3); OUTSIDE: value (0 to 999); STATE: no TEXT.", DoneEdges::refusedSet);
        Due.sentence(BACK, "BACK from the latest FRAME: how many FRAMES are left.", DoneEdges::back);
        Due.sentence(BACK, "STATE: there is none.", DoneEdges::refusedBack);
        Due.sentence(RAISE, "A TYPE is THROWN: how many FRAMES are gone;", DoneEdges::raise);
        Due.sentence(RAISE, "NONE: nobody CATCHES it, nothing is done.", DoneEdges::raiseToNobody);
        Due.sentence(RAISE, "OUTSIDE: type (0 to 4); STATE: no TEXT.", DoneEdges::refusedRaise);
        Due.sentence(CHANGE, "A PAD is of another KIND (or of the same): of which it was.", DoneEdges::change);
        Due.sentence(CHANGE, "UNKNOWN: function, pad; OUTSIDE: kind (0 to 4).", DoneEdges::refusedChange);
        runOfUndo();
    }

    private static void runOfUndo() {
        Due.sentence(UNDO, "What was done latest (by call(), go(), set(), back(), raise() that told no refusal, no NONE, and change()) is taken back",
            DoneEdges::undoOfEach);
        Due.sentence(UNDO, "that told no refusal, no NONE,", DoneEdges::undoOfNothingElse);
        Due.sentence(UNDO, "(what FINISHED latest is as it was ahead of it, too);", DoneEdges::undoOfFinished);
        Due.sentence(UNDO, "of these the latest 30 can be: how many can be then.", DoneEdges::undoOfThirty);
        Due.sentence(UNDO, "STATE: none can.", DoneEdges::refusedUndo);
    }

    private static void call() {
        Used x = Due.read(";/;/;");
        for (int many = 1; many <= 8; many++) {
            Due.is("call()", x.call(8 - many < 3 ? 8 - many : 0), many);
            Due.is("count(2)", x.count(2), many);
        }
        Due.is("the latest", x.frame(0, 0), 0);
        Due.is("the one below", x.frame(1, 0), 1);
        Due.is("the one below that", x.frame(2, 0), 2);
        Due.is("what can be taken back", x.count(3), 8);
    }

    private static void refusedCall() {
        Refusals.in(States.WITHOUT_TEXT, refusals -> {
            for (int function : Args.around(0, 2)) {
                refusals.is("call without a TEXT", x -> x.call(function), UNKNOWN);
            }
        });
        Refusals.in(States.WITH_TEXT, refusals -> Args.eachNot(0, 2, function ->
            refusals.is("call(" + function + ")", x -> x.call(function), UNKNOWN)));
        Refusals.in(() -> Due.read(";"), refusals -> Args.eachNot(0, 0, function ->
            refusals.is("call(" + function + ") of one", x -> x.call(function), UNKNOWN)));
        Refusals.in(States::full, refusals -> {
            for (int function = 0; function < 3; function++) {
                int called = function;
                refusals.is("a ninth", x -> x.call(called), FULL);
            }
            Args.eachNot(0, 2, function -> refusals.is("a ninth, unknown", x -> x.call(function), UNKNOWN));
        });
        Used x = States.full();
        x.back();
        Due.is("an eighth again", x.call(2), 8);
        Due.is("a ninth again", x.call(2), FULL);
    }

    private static void go() {
        for (int from = 0; from < 9; from++) {
            for (int by = 1; from + by <= 9; by++) {
                Used x = Due.read(";");
                x.call(0);
                x.call(0);
                if (from > 0) {
                    x.go(from);
                }
                Due.is("go(" + by + ") from " + from, x.go(by), from + by);
                Due.is("ADDRESS", x.frame(0, 1), from + by);
                Due.is("ADDRESS of the other one", x.frame(1, 1), 0);
                Due.is("what can be taken back", x.count(3), from > 0 ? 4 : 3);
            }
        }
    }

    private static void goOutside() {
        Refusals.in(States.WITHOUT_TEXT, refusals -> Args.eachNot(1, 9, by ->
            refusals.is("go(" + by + ") without a TEXT", x -> x.go(by), OUTSIDE)));
        Refusals.in(States.WITH_TEXT, refusals -> Args.eachNot(1, 9, by ->
            refusals.is("go(" + by + ")", x -> x.go(by), OUTSIDE)));
        Refusals.in(DoneEdges::atNine, refusals -> Args.eachNot(1, 9, by ->
            refusals.is("go(" + by + ") at 9", x -> x.go(by), OUTSIDE)));
        Used x = Due.read(";");
        x.call(0);
        Due.is("go(1)", x.go(1), 1);
        x.call(0);
        Due.is("go(9)", x.go(9), 9);
    }

    private static Used atNine() {
        Used x = Due.read("s00+9s01;");
        x.set(0, 7);
        x.call(0);
        x.go(9);
        x.set(0, 8);
        return x;
    }

    private static void goTooFar() {
        Refusals.in(States.WITHOUT_TEXT, refusals -> {
            refusals.is("go(1) without a TEXT", x -> x.go(1), STATE);
            refusals.is("go(9) without a TEXT", x -> x.go(9), STATE);
        });
        Refusals.in(() -> Due.read(States.TEXT), refusals -> {
            refusals.is("go(1) without a FRAME", x -> x.go(1), STATE);
            refusals.is("go(9) without a FRAME", x -> x.go(9), STATE);
        });
        for (int from = 0; from <= 9; from++) {
            int start = from;
            for (int by = 10 - from; by <= 9; by++) {
                int step = by;
                Refusals.in(() -> at(start), refusals -> refusals.is("go(" + step + ") from " + start, x -> x.go(step), STATE));
            }
        }
        Used x = Due.read(";");
        x.call(0);
        x.back();
        Due.is("go() behind back()", x.go(1), STATE);
    }

    private static Used at(int address) {
        Used x = Due.read("s00+3s01+3s02+3s03;");
        x.set(0, 9);
        x.call(0);
        x.set(0, 8);
        if (address > 0) {
            x.go(address);
        }
        x.set(0, 7);
        return x;
    }

    private static void set() {
        Used x = Due.read(";");
        int[] values = {0, 1, 998, 999, 0, 999, 999};
        for (int register = 0; register < 4; register++) {
            int was = 0;
            for (int value : values) {
                Due.is("set(" + register + ", " + value + ")", x.set(register, value), was);
                Due.is("register(" + register + ")", x.register(register), value);
                was = value;
            }
            for (int other = register + 1; other < 4; other++) {
                Due.is("register(" + other + ")", x.register(other), 0);
            }
        }
        Due.is("what can be taken back", x.count(3), 28);
    }

    private static void refusedSet() {
        for (int with = 0; with < 2; with++) {
            boolean text = with == 1;
            Refusals.in(text ? States.WITH_TEXT : States.WITHOUT_TEXT, refusals -> Args.each(4, 1000, 1, 1, (register, value, none, neither) -> {
                String call = "set(" + register + ", " + value + ")";
                if (Args.isNot(register, 4)) {
                    refusals.is(call, x -> x.set(register, value), UNKNOWN);
                } else if (Args.isNot(value, 1000)) {
                    refusals.is(call, x -> x.set(register, value), OUTSIDE);
                } else if (!text) {
                    refusals.is(call, x -> x.set(register, value), STATE);
                }
            }));
        }
    }

    private static void back() {
        Used x = Due.read("s00;/;");
        for (int many = 1; many <= 8; many++) {
            x.set(0, many);
            x.call(many % 2);
        }
        x.set(0, 9);
        // The odd ones are of a FUNCTION that SAVES nothing.
        int[] due = {8, 8, 6, 6, 4, 4, 2, 2};
        for (int left = 7; left >= 0; left--) {
            Due.is("back()", x.back(), left);
            Due.is("count(2)", x.count(2), left);
            Due.is("register(0)", x.register(0), due[7 - left]);
        }
        Due.is("what can be taken back", x.count(3), 25);
    }

    private static void refusedBack() {
        Refusals.in(States.WITHOUT_TEXT, refusals -> refusals.is("back() without a TEXT", Used::back, STATE));
        Refusals.in(() -> Due.read(States.TEXT), refusals -> refusals.is("back() without a FRAME", Used::back, STATE));
        Used x = Due.read(";");
        x.call(0);
        Due.is("back() of one", x.back(), 0);
        Due.is("back() of none", x.back(), STATE);
        Refusals.in(() -> {
            Used gone = Due.read("s00;");
            gone.set(0, 3);
            gone.call(0);
            gone.set(0, 4);
            gone.back();
            return gone;
        }, refusals -> refusals.is("back() of none", Used::back, STATE));
    }

    private static void raise() {
        for (int far = 0; far <= 7; far++) {
            for (int below = 0; far + below <= 7; below += 3) {
                Used x = Due.read(";a0903/;f0900");
                for (int frame = 0; frame <= below; frame++) {
                    x.call(0);
                }
                for (int frame = 0; frame < far; frame++) {
                    x.call(1);
                }
                Due.is("raise() " + far + " above the one that CATCHES", x.raise(far % 5), far);
                Due.is("count(2)", x.count(2), below + 1);
                Due.is("finished(NONE)", x.finished(N), far);
                Due.is("ADDRESS", x.frame(0, 1), 3);
                Due.is("what can be taken back", x.count(3), below + far + 2);
            }
        }
    }

    private static void raiseToNobody() {
        Refusals.in(() -> Due.read(States.TEXT), refusals -> {
            for (int type = 0; type < 5; type++) {
                int thrown = type;
                refusals.is("raise(" + type + ") without a FRAME", x -> x.raise(thrown), N);
            }
        });
        Refusals.in(DoneEdges::someFinished, refusals -> {
            refusals.is("raise(0)", x -> x.raise(0), N);
            refusals.is("raise(1)", x -> x.raise(1), N);
            refusals.is("raise(3)", x -> x.raise(3), N);
            refusals.is("raise(4)", x -> x.raise(4), N);
        });
        Due.is("raise(2)", someFinished().raise(2), 1);
    }

    /** Somebody CATCHES 2 alone, and something FINISHED ahead of it. */
    private static Used someFinished() {
        Used x = Due.read("s00;f0900g0920/s10;f0900");
        x.set(0, 5);
        x.call(0);
        x.raise(2);
        x.call(1);
        x.image();
        x.set(0, 6);
        return x;
    }

    private static void refusedRaise() {
        Refusals.in(States.WITHOUT_TEXT, refusals -> {
            for (int type : Args.around(0, 4)) {
                refusals.is("raise(" + type + ") without a TEXT", x -> x.raise(type), Args.isNot(type, 5) ? OUTSIDE : STATE);
            }
        });
        Refusals.in(States.WITH_TEXT, refusals -> Args.eachNot(0, 4, type ->
            refusals.is("raise(" + type + ")", x -> x.raise(type), OUTSIDE)));
        Refusals.in(DoneEdges::someFinished, refusals -> Args.eachNot(0, 4, type ->
            refusals.is("raise(" + type + ")", x -> x.raise(type), OUTSIDE)));
    }

    private static void change() {
        Used x = Due.read(";c0921/;/;c0921a0930u0942");
        int done = 0;
        int was = 3;
        for (int kind : new int[] {0, 0, 1, 1, 2, 2, 3, 3, 4, 4, 0}) {
            Due.is("change() to " + kind, x.change(2, 2, kind), was);
            Due.is("KIND", x.pad(2, 2, 0), kind);
            Due.is("what can be taken back", x.count(3), ++done);
            was = kind;
        }
        // Nothing else of it is changed, nor another PAD.
        int[] parts = {0, 0, 9, 4, 2, 31, 0};
        for (int what = 0; what < 7; what++) {
            Due.is("pad(2, 2, " + what + ")", x.pad(2, 2, what), parts[what]);
        }
        Due.is("KIND of another PAD", x.pad(2, 1, 0), 1);
        Due.is("KIND of another PAD", x.pad(2, 0, 0), 0);
        Due.is("KIND of a PAD of another FUNCTION", x.pad(0, 0, 0), 0);
        x.call(0);
        Due.is("loose()", x.loose(), 27);
        x.change(0, 0, 3);
        Due.is("loose() as it was changed", x.loose(), 3);
    }

    private static void refusedChange() {
        TextEdges.refusedOfPads("change", 5, (x, function, pad, kind) -> x.change(function, pad, kind));
    }

    /** What is done, one of each, between two looks. */
    private interface Deed {
        int on(Used x);
    }

    private static void undoOfEach() {
        Deed[] deeds = {x -> x.call(0), x -> x.call(1), x -> x.go(1), x -> x.go(6), x -> x.set(0, 1), x -> x.set(3, 999), x -> x.set(1, 20),
            x -> x.back(), x -> x.raise(2), x -> x.raise(1), x -> x.change(0, 0, 4), x -> x.change(1, 0, 2), x -> x.change(2, 1, 3)};
        for (int number = 0; number < deeds.length; number++) {
            Used x = threeFrames();
            int can = x.count(3);
            long ahead = x.digest();
            Due.is("deed " + number, deeds[number].on(x) >= 0 ? 1 : 0, 1);
            Due.is("count(3) behind deed " + number, x.count(3), can + 1);
            Due.is("undo() of deed " + number, x.undo(), can);
            Due.is("digest() behind undo() of deed " + number, x.digest(), ahead);
        }
        oneUponTheOther(deeds);
    }

    private static Used threeFrames() {
        Used x = Due.read("s00+2s01;c0920c0910/s11s22+3u2;f0900/s33;u0930g0900");
        x.set(0, 10);
        x.set(1, 20);
        x.call(0);
        x.set(0, 11);
        x.call(1);
        x.set(1, 21);
        x.call(1);
        x.go(3);
        x.raise(2);
        x.call(1);
        x.set(2, 32);
        return x;
    }

    private static void oneUponTheOther(Deed[] deeds) {
        Used x = threeFrames();
        int can = x.count(3);
        long[] ahead = new long[deeds.length];
        int done = 0;
        for (Deed deed : deeds) {
            ahead[done] = x.digest();
            if (deed.on(x) >= 0) {
                done++;
            }
        }
        Due.is("whether most were done", done > 8 ? 1 : 0, 1);
        while (done > 0) {
            done--;
            Due.is("undo()", x.undo(), can + done);
            Due.is("digest()", x.digest(), ahead[done]);
        }
    }

    private static void undoOfNothingElse() {
        Deed[] others = {x -> x.letter(';'), x -> x.fault(), Used::blank, Used::text, x -> x.row(0, 0, 0), x -> x.pad(0, 0, 5), x -> x.as(0, 0, 0),
            x -> x.frame(0, 8), x -> x.register(0), x -> x.search(2, 2), Used::loose, x -> x.finished(N), x -> x.same(0, 1),
            x -> x.see(0, 0, 0, 0), Used::forget, x -> x.drawn(99, 3, 1), Used::image, x -> x.count(3), x -> (int) x.digest(),
            x -> x.call(3), x -> x.go(0), x -> x.go(9), x -> x.set(4, 0), x -> x.set(0, 1000), x -> x.raise(5), x -> x.raise(0),
            x -> x.change(0, 2, 0), x -> x.change(0, 0, 5)};
        for (int number = 0; number < others.length; number++) {
            Used x = threeFrames();
            int can = x.count(3);
            x.go(1);
            x.set(0, 77);
            others[number].on(x);
            Due.is("count(3) behind other " + number, x.count(3), can + 2);
            Due.is("undo()", x.undo(), can + 1);
            Due.is("register(0)", x.register(0), 11);
            Due.is("undo()", x.undo(), can);
            Due.is("ADDRESS", x.frame(0, 1), 0);
        }
        nothingElseIsTakenBack();
    }

    private static void nothingElseIsTakenBack() {
        Used x = threeFrames();
        x.set(0, 1);
        x.see(0, 0, 0, 0);
        x.letter('s');
        x.image();
        x.undo();
        Due.is("count(5)", x.count(5), 1);
        Due.is("count(6)", x.count(6), 1);
        Due.is("count(7)", x.count(7), 1);
        Due.is("restore()", x.restore(), 2);
        Due.is("register(0) of the IMAGE", x.register(0), 1);
    }

    private static void undoOfFinished() {
        Used x = Due.read(";f0900g0940a0902/;f0900c0930");
        x.call(0);
        x.call(1);
        Told.finished(x);
        x.raise(0);
        Told.finished(x, 10, 0, 1);
        x.call(1);
        x.raise(3);
        Told.finished(x, 10);
        x.raise(3);
        Told.finished(x, 10);
        x.back();
        x.raise(4);
        Told.finished(x, 0);
        x.undo();
        Told.finished(x, 10);
        x.undo();
        x.undo();
        Told.finished(x, 10);
        x.undo();
        Told.finished(x, 10, 0, 1);
        x.undo();
        Told.finished(x, 10, 0, 1);
        x.undo();
        Told.finished(x);
    }

    private static void undoOfThirty() {
        for (int done : new int[] {1, 29, 30, 31, 32, 59, 60, 61, 90, 91}) {
            Used x = Due.read(";");
            for (int value = 1; value <= done; value++) {
                x.set(0, value);
                Due.is("count(3)", x.count(3), Math.min(value, 30));
            }
            int can = Math.min(done, 30);
            for (int back = 1; back <= can; back++) {
                Due.is("undo() of " + done, x.undo(), can - back);
                Due.is("register(0)", x.register(0), done - back);
            }
            Due.is("one undo() more of " + done, x.undo(), STATE);
            Due.is("register(0)", x.register(0), done - can);
        }
        someBackAndOn();
    }

    private static void someBackAndOn() {
        Used x = Due.read(";");
        int value = 0;
        for (int round = 0; round < 8; round++) {
            for (int more = 0; more < 12; more++) {
                x.set(0, ++value);
            }
            for (int less = 0; less < 5; less++) {
                x.undo();
                Due.is("register(0)", x.register(0), --value);
            }
        }
        Due.is("count(3)", x.count(3), 25);
        for (int can = 24; can >= 0; can--) {
            Due.is("undo()", x.undo(), can);
            Due.is("register(0)", x.register(0), --value);
        }
        Due.is("undo()", x.undo(), STATE);
    }

    private static void refusedUndo() {
        Refusals.in(States.WITHOUT_TEXT, refusals -> refusals.is("undo() without a TEXT", Used::undo, STATE));
        Refusals.in(() -> Due.read(States.TEXT), refusals -> refusals.is("undo() of nothing", Used::undo, STATE));
        Refusals.in(() -> {
            Used x = States.full();
            for (int can = 29; can >= 0; can--) {
                Due.is("undo()", x.undo(), can);
            }
            return x;
        }, refusals -> refusals.is("undo() of a thirty-first", Used::undo, STATE));
    }
}
