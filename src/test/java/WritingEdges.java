/** "What it is", and of "Terms" what is written: FUNCTIONS, OPS, PADS. */
final class WritingEdges {
    private static final String IS = "What it is", TERMS = "Terms";
    private static final int N = RowUnwinder.NONE, UNKNOWN = RowUnwinder.UNKNOWN, STATE = RowUnwinder.STATE;

    private WritingEdges() {
    }

    static void run() {
        Due.sentence(IS, "A TEXT is one to three FUNCTIONS", WritingEdges::oneToThreeFunctions);
        Due.sentence(IS, "(numbered from 0)", WritingEdges::functionsFromZero);
        Due.sentence(IS, "with \"/\" between,", WritingEdges::aStrokeBetween);
        Due.sentence(IS, "each a PROGRAM of up to eight OPS;", WritingEdges::upToEightOps);
        Due.sentence(IS, "\";\";", WritingEdges::aSemicolonBehind);
        Due.sentence(IS, "up to three PADS (numbered from 0).", WritingEdges::upToThreePads);
        Due.sentence(IS, "An object is used for at most 512 calls after it has been made; what later calls answer is free.",
            WritingEdges::fiveHundredAndTwelveCalls);
        Due.sentence(TERMS, "A FUNCTION has ADDRESSES 0 to 9.", WritingEdges::tenAddresses);
        Due.sentence(TERMS, "OPS are: \"+\" and a digit (1 to 9):", WritingEdges::digitsOfPlus);
        Due.sentence(TERMS, "what comes behind it is so many ADDRESSES farther on (from 0; 9 at most);", WritingEdges::nineAtMost);
        Due.sentence(TERMS, "\"s\", a digit r (0 to 3), a digit k (0 to 5): REGISTER r is SAVED in CELL k;", WritingEdges::saves);
        Due.sentence(TERMS, "\"u\" and a digit r (0 to 3): REGISTER r is SAVED nowhere;", WritingEdges::frees);
        Due.sentence(TERMS, "\"m\": all that is SAVED now, and where, is REMEMBERED", WritingEdges::remembers);
        Due.sentence(TERMS, "(at most 3 at a time, one upon the other);", WritingEdges::threeAtATime);
        Due.sentence(TERMS, "\"b\": it is as REMEMBERED latest, that is taken off", WritingEdges::latestIsTakenOff);
        Due.sentence(TERMS, "(there has to be one).", WritingEdges::oneToTakeOff);
        Due.sentence(TERMS, "ROWS at an ADDRESS are what is SAVED where by all OPS up to it, with those at it, in order, from nothing.",
            WritingEdges::rows);
        Due.sentence(TERMS, "A PAD is a letter, the KIND,", WritingEdges::padLetters);
        Due.sentence(TERMS, "a digit FROM,", WritingEdges::padFrom);
        Due.sentence(TERMS, "a digit TO (FROM to 9),", WritingEdges::padTo);
        Due.sentence(TERMS, "a digit TYPE (0 to 4),", WritingEdges::padType);
        Due.sentence(TERMS, "a digit AT.", WritingEdges::padAt);
        Due.sentence(TERMS, "KINDS are told by the letter: 0 PAD \"c\", 1 ALL \"a\", 2 FINISH \"f\", 3 UP \"u\", 4 GUARD \"g\".",
            WritingEdges::kindsByLetter);
    }

    private static void oneToThreeFunctions() {
        Pages.begun("");
        Due.is("count(0) of one", Pages.whole(";").count(0), 1);
        Due.is("count(0) of two", Pages.whole(";/;").count(0), 2);
        Due.is("count(0) of three", Pages.whole(";/;/;").count(0), 3);
        Pages.broken(";/;/;|/");
        Pages.broken(";/;/;|/;");
        Pages.broken("s00;c0000/m;/;f0000|/");
    }

    private static void functionsFromZero() {
        Used x = Pages.whole("s00;/s01;/s02;");
        for (int function = 0; function < 3; function++) {
            Due.is("CELL in FUNCTION " + function, x.row(function, 0, 0), function);
        }
        Due.is("FUNCTION 3 of three", x.row(3, 0, 0), UNKNOWN);
        Due.is("FUNCTION -1", x.row(-1, 0, 0), UNKNOWN);
        Due.is("FUNCTION 1 of one", Pages.whole(";").row(1, 0, 0), UNKNOWN);
        Due.is("FUNCTION 2 of two", Pages.whole(";/;").row(2, 0, 0), UNKNOWN);
    }

    private static void aStrokeBetween() {
        Pages.broken("|/");
        Pages.broken("|/;");
        Pages.begun(";/");
        Pages.begun(";/;/");
        Pages.broken(";/|/;");
        Pages.broken("m|/;");
        Pages.broken(";|;");
        Pages.broken(";c0000|;");
        Pages.whole(";c0000/;");
        Pages.begun(";c0000/");
    }

    private static void upToEightOps() {
        String[] eight = {"s00s01s02s03s04s05s10s11", "u0u1u2u3u0u1u2u3", "+1+1+1+1+1+1+1+1", "mbmbmbmb", "mmmbbbmb", "+1s00mu0b+1s00u0"};
        Pages.whole(";");
        for (String ops : eight) {
            Pages.begun(ops);
            Pages.whole(ops + ";");
            for (char ninth : "+sumb".toCharArray()) {
                Pages.broken(ops + "|" + ninth);
            }
        }
        Pages.whole(eight[3] + ";/" + eight[2] + ";/" + eight[1] + ";");
        Pages.broken(eight[3] + ";/" + eight[2] + ";/" + eight[1] + "|u");
        Due.is("the eighth OP is done", Pages.whole("+1+1+1+1+1+1+1s35;").row(0, 7, 3), 5);
    }

    private static void aSemicolonBehind() {
        Pages.begun("s00");
        Pages.whole("s00;");
        Pages.broken("s00;|;");
        Pages.broken("|c0000");
        Pages.broken("u0|000");
        Pages.whole("u0;u0000");
    }

    private static void upToThreePads() {
        String[] pads = {"", "c0000", "c0000a0000", "c0000a0000f0000"};
        for (int many = 0; many <= 3; many++) {
            Used x = Pages.whole(";" + pads[many]);
            Due.is("count(1)", x.count(1), many);
            for (int pad = 0; pad < many; pad++) {
                Due.is("KIND of PAD " + pad, x.pad(0, pad, 0), pad);
            }
            Due.is("PAD " + many + " of " + many, x.pad(0, many, 0), UNKNOWN);
            Due.is("PAD -1", x.pad(0, -1, 0), UNKNOWN);
        }
        for (char fourth : "cafug".toCharArray()) {
            Pages.broken(";" + pads[3] + "|" + fourth);
        }
        Due.is("count(1) of all", Pages.whole(";" + pads[3] + "/;" + pads[3] + "/;" + pads[3]).count(1), 9);
        Pages.broken(";/;" + pads[3] + "|c");
    }

    private static void fiveHundredAndTwelveCalls() {
        lastOfManySets();
        lastOfManyTexts();
        lastOfManyOfEachKind();
    }

    private static void lastOfManySets() {
        Used x = Due.read(";");
        int was = 0;
        while (x.calls() < Used.MOST_CALLS - 2) {
            int next = (was + 7) % 1000;
            Due.is("set()", x.set(2, next), was);
            was = next;
        }
        Due.is("call 511", x.count(3), 30);
        Due.is("call 512", x.undo(), 29);
    }

    private static void lastOfManyTexts() {
        Used x = new Used();
        for (int texts = 1; texts <= 255; texts++) {
            Due.is("letter()", x.letter(';'), 1);
            Due.is("text()", x.text(), 1);
        }
        Due.is("call 511", x.count(7), 255);
        Due.is("call 512", x.call(0), 1);
    }

    private static void lastOfManyOfEachKind() {
        Used x = Due.read("s00;f0900a0900");
        while (x.calls() < Used.MOST_CALLS - 12) {
            x.set(0, x.calls() % 1000);
            x.call(0);
            x.go(9);
            x.raise(4);
            x.image();
            x.undo();
            x.drawn(99, x.calls(), 0);
            x.restore();
            x.back();
            x.digest();
        }
        Due.is("set()", x.set(0, 5) >= 0 ? 1 : 0, 1);
        Due.is("call()", x.call(0), 1);
        while (x.calls() < Used.MOST_CALLS - 2) {
            Due.is("raise()", x.raise(1), 0);
        }
        Due.is("call 511", x.finished(N), 1);
        Due.is("call 512", x.frame(0, 2), 5);
    }

    private static void tenAddresses() {
        Used x = Pages.whole("s00+9s01;a9900");
        Due.is("ROWS at 0", x.row(0, 0, 0), 0);
        Due.is("ROWS at 9", x.row(0, 9, 0), 1);
        Due.is("ROWS at 10", x.row(0, 10, 0), UNKNOWN);
        Due.is("ROWS at -1", x.row(0, -1, 0), UNKNOWN);
        x.call(0);
        Due.is("going on to 9", x.go(9), 9);
        Due.is("going on to 10", x.go(1), STATE);
    }

    private static void digitsOfPlus() {
        for (char digit = '1'; digit <= '9'; digit++) {
            Used x = Pages.whole("+" + digit + "s00;");
            Due.is("ROWS ahead of it", x.row(0, digit - '1', 0), N);
            Due.is("ROWS at it", x.row(0, digit - '0', 0), 0);
        }
        Pages.begun("+");
        for (char none : "0:/;+ ".toCharArray()) {
            Pages.broken("+|" + none);
        }
    }

    private static void nineAtMost() {
        for (int first = 1; first <= 9; first++) {
            for (int second = 1; second <= 9; second++) {
                Pages.may(first + second <= 9, "+" + first + "s00+", (char) ('0' + second));
            }
        }
        Due.is("from 0", Pages.whole("s00;").row(0, 0, 0), 0);
        Pages.whole("+3+3+3s00;");
        Pages.broken("+3+3+3s00+|1");
        Pages.whole("+9;/+9;/+9;");
        Pages.broken("+9;/+9+|1");
        Pages.broken("+9;/;/+5+|5");
        Due.is("farther on from where it was", Pages.whole("+4+2s00;").row(0, 5, 0), N);
        Due.is("farther on from where it was", Pages.whole("+4+2s00;").row(0, 6, 0), 0);
    }

    private static void saves() {
        for (int register = 0; register < 4; register++) {
            for (int cell = 0; cell < 6; cell++) {
                Used x = Pages.whole("s" + register + cell + ";");
                for (int other = 0; other < 4; other++) {
                    Due.is("CELL of REGISTER " + other, x.row(0, 0, other), other == register ? cell : N);
                }
            }
        }
        for (char none : "4/9:;s".toCharArray()) {
            Pages.broken("s|" + none);
        }
        for (char none : "6/9:;s".toCharArray()) {
            Pages.broken("s3|" + none);
        }
    }

    private static void frees() {
        for (int register = 0; register < 4; register++) {
            Used x = Pages.whole("s00s11s22s33u" + register + ";");
            for (int other = 0; other < 4; other++) {
                Due.is("CELL of REGISTER " + other, x.row(0, 0, other), other == register ? N : other);
            }
        }
        Due.is("what is SAVED nowhere as it is", Pages.whole("u3u3;").row(0, 0, 3), N);
        for (char none : "4/9:;u".toCharArray()) {
            Pages.broken("u|" + none);
        }
    }

    private static void remembers() {
        Used x = Pages.whole("s01s35m+1u0s30+1b;/m+1s00s15+1b;/s00m+1u0m+1bb;");
        Told.row(x, 0, 0, 1, N, N, 5, 1);
        Told.row(x, 0, 1, N, N, N, 0, 1);
        Told.row(x, 0, 2, 1, N, N, 5, 0);
        // What was SAVED nowhere is SAVED nowhere again.
        Told.row(x, 1, 1, 0, 5, N, N, 1);
        Told.row(x, 1, 2, N, N, N, N, 0);
        Told.row(x, 2, 1, N, N, N, N, 2);
        Told.row(x, 2, 2, 0, N, N, N, 0);
    }

    private static void threeAtATime() {
        Used x = Pages.whole("mm+1m+1b;/mmm;/+9mmm;");
        Told.row(x, 0, 0, N, N, N, N, 2);
        Told.row(x, 0, 1, N, N, N, N, 3);
        Told.row(x, 0, 2, N, N, N, N, 2);
        Told.row(x, 1, 9, N, N, N, N, 3);
        Told.row(x, 2, 8, N, N, N, N, 0);
        Pages.broken("mmm|m");
        Pages.broken("m+1m+1m+1|m");
        Pages.whole("mmmbm;");
        Pages.broken("mmmbm|m");
        Pages.broken("mmm;/mmm|m");
    }

    private static void latestIsTakenOff() {
        Used x = Pages.whole("ms00ms01+1b+1b;/s00ms01+1b+1m;");
        Told.row(x, 0, 0, 1, N, N, N, 2);
        Told.row(x, 0, 1, 0, N, N, N, 1);
        Told.row(x, 0, 2, N, N, N, N, 0);
        Told.row(x, 1, 0, 1, N, N, N, 1);
        Told.row(x, 1, 1, 0, N, N, N, 0);
        Told.row(x, 1, 2, 0, N, N, N, 1);
    }

    private static void oneToTakeOff() {
        Pages.broken("|b");
        Pages.broken("s00|b");
        Pages.whole("mb;");
        Pages.broken("mb|b");
        Pages.whole("mmmbbb;");
        Pages.broken("mmmbbb|b");
        Pages.broken("m;/|b");
        Pages.broken("mmm;/mb|b");
    }

    private static void rows() {
        Used x = Pages.whole("s00+1s01s02u1+1u0;/+5s10;/s00u0s03s14+9u0;");
        Told.row(x, 0, 0, 0, N, N, N);
        Told.row(x, 0, 1, 2, N, N, N);
        for (int address = 2; address < 10; address++) {
            Told.row(x, 0, address, N, N, N, N);
        }
        // From nothing, though the FUNCTION ahead has SAVED.
        Told.row(x, 1, 0, N, N, N, N);
        Told.row(x, 1, 4, N, N, N, N);
        Told.row(x, 1, 5, N, 0, N, N);
        Told.row(x, 1, 9, N, 0, N, N);
        Told.row(x, 2, 0, 3, 4, N, N);
        Told.row(x, 2, 8, 3, 4, N, N);
        Told.row(x, 2, 9, N, 4, N, N);
    }

    private static void padLetters() {
        for (char letter = 1; letter <= 126; letter++) {
            Pages.may("cafug/".indexOf(letter) >= 0, ";", letter);
            Pages.may("cafug/".indexOf(letter) >= 0, ";a0000", letter);
        }
        Pages.broken("|a0000");
    }

    private static void padFrom() {
        for (char letter = 1; letter <= 126; letter++) {
            Pages.may(letter >= '0' && letter <= '9', ";c", letter);
        }
        for (int from = 0; from <= 9; from++) {
            Due.is("FROM", Pages.whole(";f" + from + "900").pad(0, 0, 1), from);
        }
    }

    private static void padTo() {
        for (char from = '0'; from <= '9'; from++) {
            for (char letter = '/'; letter <= ':'; letter++) {
                Pages.may(letter >= from && letter <= '9', ";u" + from, letter);
            }
            Due.is("TO", Pages.whole(";f" + from + from + "00").pad(0, 0, 2), from - '0');
            Due.is("TO", Pages.whole(";f" + from + "900").pad(0, 0, 2), 9);
        }
    }

    private static void padType() {
        for (char letter = 1; letter <= 126; letter++) {
            Pages.may(letter >= '0' && letter <= '4', ";c09", letter);
        }
        for (int type = 0; type <= 4; type++) {
            Due.is("TYPE", Pages.whole(";g09" + type + "0").pad(0, 0, 3), type);
        }
    }

    private static void padAt() {
        for (char letter = 1; letter <= 126; letter++) {
            Pages.may(letter >= '0' && letter <= '9', ";c554", letter);
        }
        for (int at = 0; at <= 9; at++) {
            Due.is("AT", Pages.whole(";g550" + at).pad(0, 0, 4), at);
        }
    }

    private static void kindsByLetter() {
        String letters = "cafug";
        for (int kind = 0; kind < 5; kind++) {
            for (int pads = 1; pads <= 3; pads++) {
                Used x = Pages.whole(";" + (letters.charAt(kind) + "0900").repeat(pads));
                Due.is("KIND of " + letters.charAt(kind), x.pad(0, pads - 1, 0), kind);
            }
        }
    }
}
