import java.util.function.Supplier;

/** Promises 1 to 10, "the text": letter(), blank(), fault(), text(), row(), pad(), as(), frame(), register(). */
final class TextEdges {
    private static final String NEW = "Promise 1", LETTER = "Promise 2", BLANK = "Promise 3", FAULT = "Promise 4", TEXT = "Promise 5";
    private static final String ROW = "Promise 6", PAD = "Promise 7", AS = "Promise 8", FRAME = "Promise 9", REGISTER = "Promise 10";
    private static final int N = RowUnwinder.NONE, UNKNOWN = RowUnwinder.UNKNOWN, OUTSIDE = RowUnwinder.OUTSIDE;
    private static final int STATE = RowUnwinder.STATE, FULL = RowUnwinder.FULL;

    private TextEdges() {
    }

    static void run() {
        Due.sentence(NEW, "No TEXT.", TextEdges::aNewObject);
        Due.sentence(LETTER, "A letter comes behind THE PAGE, by its code: how many THE PAGE has.", TextEdges::lettersByCode);
        Due.sentence(LETTER, "OUTSIDE: code (1 to 126);", TextEdges::codesOutside);
        Due.sentence(LETTER, "FULL: above 100.", TextEdges::aFullPage);
        Due.sentence(BLANK, "THE PAGE is empty: how many letters it had.", TextEdges::blank);
        Due.sentence(FAULT, "The place (from 0) of the first letter of THE PAGE that no TEXT has there, behind those ahead of it",
            TextEdges::firstFault);
        Due.sentence(FAULT, "(a \"+\" may stand at ADDRESS 9, though no digit may behind it);", TextEdges::plusAtNine);
        Due.sentence(FAULT, "how many letters it has, if there is none.", TextEdges::noFault);
        Due.sentence(TEXT, "THE PAGE is read as THE TEXT", TextEdges::pageIsRead);
        Due.sentence(TEXT, "(another one is gone, with all that was):", TextEdges::anotherIsGone);
        Due.sentence(TEXT, "how many FUNCTIONS; THE PAGE is empty then.", TextEdges::howManyFunctions);
        Due.sentence(TEXT, "STATE: it is none.", TextEdges::noText);
        Due.sentence(ROW, "Of the ROWS of a FUNCTION at an ADDRESS: what = 0 to 3 the CELL in which that REGISTER is SAVED (NONE: nowhere),",
            TextEdges::rowCells);
        Due.sentence(ROW, "4 how much is REMEMBERED,", TextEdges::rowRemembered);
        Due.sentence(ROW, "5 the greatest ADDRESS up to it at which there is an OP other than \"+\" (0: there is none).", TextEdges::rowAddress);
        Due.sentence(ROW, "UNKNOWN: function, address (0 to 9); OUTSIDE.", TextEdges::refusedRow);
        runOfPadsAndFrames();
    }

    private static void runOfPadsAndFrames() {
        Due.sentence(PAD, "Of a PAD: what = 0 KIND, 1 FROM, 2 TO, 3 TYPE, 4 AT, 5 SORTS, as bits, 6 ASK (NONE).", TextEdges::padParts);
        Due.sentence(PAD, "UNKNOWN: function, pad; OUTSIDE.", TextEdges::refusedPad);
        Due.sentence(AS, "A PAD taken as a KIND: its number;", TextEdges::takenAs);
        Due.sentence(AS, "NONE: it is none such (the cast fails).", TextEdges::notTakenAs);
        Due.sentence(AS, "UNKNOWN: function, pad; OUTSIDE.", TextEdges::refusedAs);
        Due.sentence(FRAME, "Of a FRAME: what = 0 the FUNCTION, 1 the ADDRESS, 2 to 7 what CELL 0 to 5 is, 8 to 11 CALLER for REGISTER 0 to 3.",
            TextEdges::frameParts);
        Due.sentence(FRAME, "UNKNOWN; OUTSIDE.", TextEdges::refusedFrame);
        Due.sentence(REGISTER, "What a REGISTER is.", TextEdges::registers);
        Due.sentence(REGISTER, "UNKNOWN: register (0 to 3).", TextEdges::refusedRegister);
    }

    private static void aNewObject() {
        Used x = new Used();
        Due.is("count(0)", x.count(0), 0);
        Due.is("count(7)", x.count(7), 0);
        Due.is("letters of THE PAGE", x.count(6), 0);
        Due.is("image()", x.image(), STATE);
        Due.is("raise(0)", x.raise(0), STATE);
        Due.is("search(0, 0)", x.search(0, 0), STATE);
        Due.is("same(0, 0)", x.same(0, 0), UNKNOWN);
        Due.is("finished(NONE)", x.finished(N), 0);
        // One object has nothing of another one.
        Used other = Due.read(";");
        other.set(0, 5);
        Due.is("count(0) beside another", x.count(0), 0);
        Due.is("register(0) beside another", x.register(0), 0);
        Due.is("set() of the other", other.set(0, 6), 5);
    }

    private static void lettersByCode() {
        Used x = new Used();
        long h = 1399;
        for (int number = 0; number < 5; number++) {
            h *= 31;
        }
        // Each code is told by digest().
        for (int code = 1; code <= 100; code++) {
            Due.is("letter(" + code + ")", x.letter(code), code);
            h = 31 * h + code;
            long due = h;
            for (int what = 0; what < 8; what++) {
                due = 31 * due + (what == 6 ? code : 0);
            }
            Due.is("digest() behind letter(" + code + ")", x.digest(), due);
        }
        x.blank();
        for (int code = 101; code <= 126; code++) {
            Due.is("letter(" + code + ")", x.letter(code), code - 100);
        }
    }

    private static void codesOutside() {
        Refusals.in(States.WITHOUT_TEXT, refusals -> Args.eachNot(1, 126, code ->
            refusals.is("letter(" + code + ")", x -> x.letter(code), OUTSIDE)));
        Refusals.in(States.WITH_TEXT, refusals -> Args.eachNot(1, 126, code ->
            refusals.is("letter(" + code + ")", x -> x.letter(code), OUTSIDE)));
        Used x = new Used();
        Due.is("letter(1)", x.letter(1), 1);
        Due.is("letter(126)", x.letter(126), 2);
    }

    private static void aFullPage() {
        Used x = new Used();
        for (int many = 1; many <= 100; many++) {
            Due.is("letter " + many, x.letter(';'), many);
        }
        Due.is("letter 101", x.letter(';'), FULL);
        Due.is("blank()", x.blank(), 100);
        Due.is("letter behind blank()", x.letter(';'), 1);
        Refusals.in(States::full, refusals -> {
            for (int code = 1; code <= 126; code++) {
                int letter = code;
                refusals.is("letter 101", full -> full.letter(letter), FULL);
            }
            Args.eachNot(1, 126, code -> refusals.is("letter 101, outside", full -> full.letter(code), OUTSIDE));
        });
    }

    private static void blank() {
        Used x = new Used();
        Due.is("blank() of an empty one", x.blank(), 0);
        Due.is("letter()", x.letter('x'), 1);
        Due.is("blank() of one", x.blank(), 1);
        Due.is("blank() again", x.blank(), 0);
        Due.is("fault()", x.fault(), 0);
        Due.write(x, "s".repeat(100));
        Due.is("blank() of a full one", x.blank(), 100);
        Due.is("count(6)", x.count(6), 0);
        Due.write(x, ";");
        Due.is("text()", x.text(), 1);
        Due.is("blank() behind text()", x.blank(), 0);
        Due.is("THE TEXT is as it was", x.count(0), 1);
    }

    private static void firstFault() {
        for (char letter = 1; letter <= 126; letter++) {
            Pages.may("+sum;".indexOf(letter) >= 0, "", letter);
            Pages.may("+sumb;".indexOf(letter) >= 0, "s00m", letter);
            Pages.may("+sub;".indexOf(letter) >= 0, "mmm", letter);
            Pages.may("+sum;".indexOf(letter) >= 0, "mb", letter);
            Pages.may(letter == ';', "u0u0u0u0u0u0u0u0", letter);
            Pages.may(letter == ';', "mu0u0u0u0u0u0u0", letter);
            Pages.may(letter == '/', ";c0000c0000c0000", letter);
            Pages.may("cafug".indexOf(letter) >= 0, ";/;/;", letter);
            Pages.may(letter >= '1' && letter <= '9', "+", letter);
            Pages.may(letter == '1', "+8+", letter);
            Pages.may(letter >= '0' && letter <= '3', "s", letter);
            Pages.may(letter >= '0' && letter <= '5', "s0", letter);
            Pages.may(letter >= '0' && letter <= '3', "u", letter);
        }
        Pages.may(false, ";c0000c0000c0000/;c0000/;c0000c0000c0000", '/');
        onlyTheFirstCounts();
    }

    private static void onlyTheFirstCounts() {
        Used x = Due.written("s00x");
        Due.is("fault()", x.fault(), 3);
        for (char letter : "s00;xx9".toCharArray()) {
            x.letter(letter);
            Due.is("fault() behind more letters", x.fault(), 3);
        }
        Due.is("fault() at the last of a hundred", Due.written(longest(99) + "x").fault(), 99);
        Due.is("fault() at the first of a hundred", Due.written("x" + longest(99)).fault(), 0);
        Due.is("fault() again", Due.written("x").fault(), 0);
    }

    /** What a TEXT may begin with, up to a hundred letters, which is a whole one then. */
    private static String longest(int letters) {
        String program = "s00s11s22s33s00s11s22s33;", pads = "c0000c0000c0000";
        String text = program + pads + "/" + program + pads + "/s00s11s22s33;c0000";
        Due.is("letters of the longest", text.length(), 100);
        return text.substring(0, letters);
    }

    private static void plusAtNine() {
        String[] atNine = {"+9", "+1+8", "+3+3+3", "+9s00", "+9m", "+1+1+1+1+1+4"};
        for (String ops : atNine) {
            Pages.begun(ops + "+");
            for (char letter = 1; letter <= 126; letter++) {
                Pages.may(false, ops + "+", letter);
            }
            Pages.whole(ops + ";");
        }
        Pages.begun("+1+1+1+1+1+1+1+");
        Pages.broken("+9+|;");
        // The next FUNCTION is at 0 again.
        Pages.whole("+9;/+9;");
    }

    private static void noFault() {
        Due.is("fault() of an empty one", new Used().fault(), 0);
        for (int letters = 1; letters <= 100; letters++) {
            Due.is("fault() of " + letters, Due.written(longest(letters)).fault(), letters);
        }
        Used x = Due.written("s00;");
        Due.is("fault()", x.fault(), 4);
        Due.is("fault() again", x.fault(), 4);
        x.text();
        Due.is("fault() behind text()", x.fault(), 0);
    }

    private static void pageIsRead() {
        Used x = Due.read(longest(100));
        Due.is("count(1)", x.count(1), 7);
        for (int function = 0; function < 3; function++) {
            for (int register = 0; register < 4; register++) {
                Due.is("CELL of " + register, x.row(function, 9, register), register);
            }
        }
        x = Due.written("s0");
        x.blank();
        Due.write(x, "u0;g1234");
        Due.is("text()", x.text(), 1);
        Due.is("row(0, 0, 0)", x.row(0, 0, 0), N);
        Due.is("KIND", x.pad(0, 0, 0), 4);
        Due.is("count(7)", x.count(7), 1);
    }

    private static void anotherIsGone() {
        Used x = States.rich();
        x.blank();
        Due.write(x, ";");
        Due.is("text()", x.text(), 1);
        Used fresh = Due.read(";");
        Due.is("text() again", readAgain(fresh, ";"), 1);
        Due.is("digest() as if nothing had been", x.digest(), fresh.digest());
        Due.is("undo()", x.undo(), STATE);
        Due.is("restore()", x.restore(), STATE);
        Due.is("finished(0)", x.finished(0), UNKNOWN);
        Due.is("forget()", x.forget(), 0);
        Due.is("frame(0, 0)", x.frame(0, 0), UNKNOWN);
        Due.is("row(1, 0, 0)", x.row(1, 0, 0), UNKNOWN);
        for (int register = 0; register < 4; register++) {
            Due.is("register(" + register + ")", x.register(register), 0);
        }
        changesAreGone();
        fullIsGone();
    }

    private static int readAgain(Used x, String text) {
        Due.write(x, text);
        return x.text();
    }

    private static void changesAreGone() {
        Used x = Due.read(";c0910");
        x.change(0, 0, 1);
        x.see(0, 0, 1, 2);
        Due.is("the same TEXT again", readAgain(x, ";c0910"), 1);
        Due.is("KIND", x.pad(0, 0, 0), 0);
        Due.is("SORTS", x.pad(0, 0, 5), 31);
        Due.is("count(3)", x.count(3), 0);
    }

    private static void fullIsGone() {
        Used x = States.full();
        x.blank();
        Due.is("text()", readAgain(x, "s00;c0900"), 1);
        for (int many = 1; many <= 8; many++) {
            Due.is("call(0)", x.call(0), many);
        }
        for (int many = 1; many <= 6; many++) {
            Due.is("see()", x.see(0, 0, 0, 1), many);
        }
        Due.is("count(3)", x.count(3), 8);
    }

    private static void howManyFunctions() {
        Used x = new Used();
        String[] texts = {";", ";/;", ";/;/;"};
        for (int times = 1; times <= 9; times++) {
            int functions = 1 + times % 3;
            Due.is("text()", readAgain(x, texts[functions - 1]), functions);
            Due.is("count(0)", x.count(0), functions);
            Due.is("count(6)", x.count(6), 0);
            Due.is("blank()", x.blank(), 0);
            Due.is("count(7)", x.count(7), times);
        }
    }

    private static void noText() {
        String[] pages = {"", "s", "s00", ";c", ";c000", ";/", "x", ";;", ";/;/;/", "mmmm;", "b;", "+9+", "+9+1;", ";c1000", longest(99), longest(99) + "x"};
        for (String page : pages) {
            Refusals.in(() -> Due.written(page), refusals -> refusals.is("text() of " + page, Used::text, STATE));
            Refusals.in(() -> pageBehind(page), refusals -> refusals.is("text() of " + page, Used::text, STATE));
        }
        Used x = pageBehind("s00");
        Due.is("text()", x.text(), STATE);
        Due.is("count(6)", x.count(6), 3);
        Due.is("letter()", x.letter(';'), 4);
        Due.is("text()", x.text(), 1);
    }

    private static Used pageBehind(String page) {
        Used x = States.rich();
        x.blank();
        Due.write(x, page);
        return x;
    }

    private static void rowCells() {
        Used x = Due.read("s00s15s21s34;/;/+9s35;");
        for (int address = 0; address < 10; address++) {
            Told.row(x, 0, address, 0, 5, 1, 4);
            Told.row(x, 1, address, N, N, N, N);
            Told.row(x, 2, address, N, N, N, address == 9 ? 5 : N);
        }
        // What is done changes nothing of them.
        x.call(2);
        x.go(5);
        x.set(0, 9);
        Told.row(x, 2, 5, N, N, N, N);
        Told.row(x, 0, 5, 0, 5, 1, 4);
    }

    private static void rowRemembered() {
        Used x = Due.read("m+1m+1m+1b;/mmm+9b;/;");
        int[] due = {1, 2, 3, 2, 2, 2, 2, 2, 2, 2};
        for (int address = 0; address < 10; address++) {
            Due.is("what is REMEMBERED at " + address, x.row(0, address, 4), due[address]);
            Due.is("what is REMEMBERED at " + address, x.row(1, address, 4), address == 9 ? 2 : 3);
            Due.is("what is REMEMBERED at " + address, x.row(2, address, 4), 0);
        }
    }

    private static void rowAddress() {
        Used x = Due.read("+1u0+2m+1+5b;/+9;/s00+9;");
        int[] due = {0, 1, 1, 3, 3, 3, 3, 3, 3, 9};
        for (int address = 0; address < 10; address++) {
            Due.is("the greatest ADDRESS up to " + address, x.row(0, address, 5), due[address]);
            Due.is("the greatest ADDRESS up to " + address, x.row(1, address, 5), 0);
            Due.is("the greatest ADDRESS up to " + address, x.row(2, address, 5), 0);
        }
        for (String op : new String[] {"s00", "u0", "m", "mb"}) {
            x = Due.read("+4" + op + "+1;");
            Due.is("of " + op, x.row(0, 3, 5), 0);
            Due.is("of " + op, x.row(0, 4, 5), 4);
            Due.is("of " + op, x.row(0, 9, 5), 4);
        }
    }

    private static void refusedRow() {
        Refusals.in(States.WITHOUT_TEXT, refusals -> Args.each(3, 10, 6, 1, (function, address, what, none) ->
            refusals.is("row", x -> x.row(function, address, what), UNKNOWN)));
        Refusals.in(States.WITH_TEXT, refusals -> Args.each(3, 10, 6, 1, (function, address, what, none) -> {
            String call = "row(" + function + ", " + address + ", " + what + ")";
            if (States.noFunction(function) || Args.isNot(address, 10)) {
                refusals.is(call, x -> x.row(function, address, what), UNKNOWN);
            } else if (Args.isNot(what, 6)) {
                refusals.is(call, x -> x.row(function, address, what), OUTSIDE);
            }
        }));
    }

    private static void pad(Used x, int function, int pad, int... due) {
        for (int what = 0; what < due.length; what++) {
            Due.is("pad(" + function + ", " + pad + ", " + what + ")", x.pad(function, pad, what), due[what]);
        }
    }

    private static void padParts() {
        Used x = Due.read(";c0000g9949/;/;a0949u5821f1230");
        pad(x, 0, 0, 0, 0, 0, 0, 0, 31, 1);
        pad(x, 0, 1, 4, 9, 9, 4, 9, 31, 0);
        pad(x, 2, 0, 1, 0, 9, 4, 9, 31, 0);
        pad(x, 2, 1, 3, 5, 8, 2, 1, 31, 0);
        pad(x, 2, 2, 2, 1, 2, 3, 0, 31, 0);
        x.see(2, 1, 2, 2);
        pad(x, 2, 1, 3, 5, 8, 2, 1, 4, 0);
        x.see(2, 1, 2, 1);
        pad(x, 2, 1, 3, 5, 8, 2, 1, 0, N);
        x.change(2, 1, 0);
        pad(x, 2, 1, 0, 5, 8, 2, 1, 0, N);
        x.forget();
        pad(x, 2, 1, 0, 5, 8, 2, 1, 31, 0);
    }

    private static void refusedPad() {
        refusedOfPads("pad", 7, (x, function, pad, what) -> x.pad(function, pad, what));
    }

    /** A call that tells or does something of a PAD. */
    interface PadCall {
        int of(Used x, int function, int pad, int what);
    }

    static void refusedOfPads(String name, int whats, PadCall call) {
        Refusals.in(States.WITHOUT_TEXT, refusals -> Args.each(3, 3, whats, 1, (function, pad, what, none) ->
            refusals.is(name + " without a TEXT", x -> call.of(x, function, pad, what), UNKNOWN)));
        Refusals.in(States.WITH_TEXT, refusals -> Args.each(3, 3, whats, 1, (function, pad, what, none) -> {
            String told = name + "(" + function + ", " + pad + ", " + what + ")";
            if (States.noPad(function, pad)) {
                refusals.is(told, x -> call.of(x, function, pad, what), UNKNOWN);
            } else if (Args.isNot(what, whats)) {
                refusals.is(told, x -> call.of(x, function, pad, what), OUTSIDE);
            }
        }));
        // FUNCTIONS 0 and 1 have two PADS, FUNCTION 2 has three.
        Refusals.in(States::rich, refusals -> {
            refusals.is(name + " of PAD 2 of FUNCTION 0", x -> call.of(x, 0, 2, 0), UNKNOWN);
            refusals.is(name + " of PAD 2 of FUNCTION 1", x -> call.of(x, 1, 2, whats), UNKNOWN);
            refusals.is(name + " of PAD 3 of FUNCTION 2", x -> call.of(x, 2, 3, -1), UNKNOWN);
            refusals.is(name + " of PAD 2 of FUNCTION 2, outside", x -> call.of(x, 2, 2, whats), OUTSIDE);
            refusals.is(name + " of PAD 1 of FUNCTION 0, outside", x -> call.of(x, 0, 1, -1), OUTSIDE);
        });
    }

    private static void takenAs() {
        Used x = Due.read(";/;/;c0900c0900c0900");
        int[] kinds = {0, 1, 2, 3, 4, 4};
        int[] others = {0, 1, 2, 3, 4, 2};
        for (int pad = 0; pad < 3; pad++) {
            for (int number = 0; number < kinds.length; number++) {
                x.change(2, pad, kinds[number]);
                Due.is("KIND " + kinds[number] + " as " + others[number], x.as(2, pad, others[number]), pad);
                Due.is("KIND " + kinds[number] + " as a PAD", x.as(2, pad, 0), pad);
            }
        }
    }

    private static void notTakenAs() {
        Used x = Due.read(";c0900c0900c0900");
        int[][] not = {{1, 2, 3, 4}, {2, 3, 4}, {1, 3, 4}, {1, 2, 4}, {1, 3}};
        for (int pad = 0; pad < 3; pad++) {
            for (int kind = 0; kind < 5; kind++) {
                x.change(0, pad, kind);
                for (int other : not[kind]) {
                    Due.is("KIND " + kind + " as " + other, x.as(0, pad, other), N);
                }
            }
        }
    }

    private static void refusedAs() {
        refusedOfPads("as", 5, (x, function, pad, kind) -> x.as(function, pad, kind));
    }

    private static void frameParts() {
        Used x = Due.read(";/s00s11s22s33+2s04+7s15;");
        for (int register = 0; register < 4; register++) {
            x.set(register, 101 + register);
        }
        x.call(1);
        x.set(0, 201);
        x.go(9);
        x.set(1, 202);
        x.call(0);
        x.go(3);
        int[] latest = {0, 3, 0, 0, 0, 0, 0, 0, 201, 202, 103, 104};
        int[] first = {1, 9, 101, 102, 103, 104, 201, 102, 201, 102, 103, 104};
        for (int what = 0; what < 12; what++) {
            Due.is("frame(0, " + what + ")", x.frame(0, what), latest[what]);
            Due.is("frame(1, " + what + ")", x.frame(1, what), first[what]);
        }
    }

    private static void refusedFrame() {
        Refusals.in(States.WITHOUT_TEXT, refusals -> Args.each(1, 12, 1, 1, (frame, what, none, neither) ->
            refusals.is("frame", x -> x.frame(frame, what), UNKNOWN)));
        Refusals.in(() -> Due.read(States.TEXT), refusals -> Args.each(1, 12, 1, 1, (frame, what, none, neither) ->
            refusals.is("frame without a FRAME", x -> x.frame(frame, what), UNKNOWN)));
        refusedFrames(States::rich, 2);
        refusedFrames(States::full, 8);
    }

    private static void refusedFrames(Supplier<Used> state, int frames) {
        Refusals.in(state, refusals -> Args.each(frames, 12, 1, 1, (frame, what, none, neither) -> {
            String call = "frame(" + frame + ", " + what + ")";
            if (Args.isNot(frame, frames)) {
                refusals.is(call, x -> x.frame(frame, what), UNKNOWN);
            } else if (Args.isNot(what, 12)) {
                refusals.is(call, x -> x.frame(frame, what), OUTSIDE);
            }
        }));
    }

    private static void registers() {
        Used x = new Used();
        for (int register = 0; register < 4; register++) {
            Due.is("without a TEXT", x.register(register), 0);
        }
        x = Due.read(";");
        for (int register = 0; register < 4; register++) {
            x.set(register, 999 - register);
        }
        for (int register = 0; register < 4; register++) {
            Due.is("register(" + register + ")", x.register(register), 999 - register);
        }
    }

    private static void refusedRegister() {
        Refusals.in(States.WITHOUT_TEXT, refusals -> Args.eachNot(0, 3, register ->
            refusals.is("register(" + register + ")", x -> x.register(register), UNKNOWN)));
        Refusals.in(States.WITH_TEXT, refusals -> Args.eachNot(0, 3, register ->
            refusals.is("register(" + register + ")", x -> x.register(register), UNKNOWN)));
    }
}
