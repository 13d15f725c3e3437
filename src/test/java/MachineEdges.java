/** "Terms": KINDS, FRAMES, BACK, CALLER, and how it is THROWN. */
final class MachineEdges {
    private static final String TERMS = "Terms", LETTERS = "cafug";
    private static final int N = RowUnwinder.NONE, UNKNOWN = RowUnwinder.UNKNOWN, STATE = RowUnwinder.STATE;
    private static final int OUTSIDE = RowUnwinder.OUTSIDE;

    private MachineEdges() {
    }

    static void run() {
        Due.sentence(TERMS, "All are PADS; a GUARD is a FINISH, too.", MachineEdges::whatKindsAre);
        Due.sentence(TERMS, "At first there is no TEXT;", MachineEdges::noTextAtFirst);
        Due.sentence(TERMS, "then no FRAMES, all REGISTERS are 0, nothing was done.", MachineEdges::nothingDoneThen);
        Due.sentence(TERMS, "A plain PAD CATCHES its TYPE, ALL any TYPE, an UP its TYPE and greater ones, a GUARD its TYPE, a FINISH none;",
            MachineEdges::whoCatches);
        Due.sentence(TERMS, "a FINISH, and a GUARD that does not CATCH, FINISHES.", MachineEdges::whoFinishes);
        Due.sentence(TERMS, "A PAD is for the ADDRESSES FROM to TO.", MachineEdges::fromTo);
        Due.sentence(TERMS, "A FRAME is a FUNCTION that was called, an ADDRESS, six CELLS (0 at first);", MachineEdges::sixCells);
        Due.sentence(TERMS, "FRAMES are numbered from 0, the latest one, down to the first one.", MachineEdges::numbersOfFrames);
        Due.sentence(TERMS, "When it is called it is at ADDRESS 0;", MachineEdges::calledAtZero);
        Due.sentence(TERMS, "there, and at each ADDRESS that it goes on to, one by one, each OP \"s\" is done:", MachineEdges::oneByOne);
        Due.sentence(TERMS, "the CELL is what the REGISTER is now.", MachineEdges::asTheRegisterIsNow);
        Due.sentence(TERMS, "BACK from a FRAME: each REGISTER that is SAVED by the ROWS at its ADDRESS is what that CELL is,",
            MachineEdges::backByRows);
        Due.sentence(TERMS, "the others are as they are;", MachineEdges::othersAsTheyAre);
        Due.sentence(TERMS, "then it is gone.", MachineEdges::goneBehindBack);
        Due.sentence(TERMS, "CALLER of a FRAME for a REGISTER: what it would be behind BACK from all FRAMES from the latest one to that one.",
            MachineEdges::callers);
        Due.sentence(TERMS, "THROWN is a TYPE (0 to 4).", MachineEdges::typesThrown);
        Due.sentence(TERMS, "SEARCH: FRAME by FRAME from the latest one, in each PAD by PAD", MachineEdges::searchInOrder);
        Due.sentence(TERMS, "those that are for its ADDRESS: the first PAD that CATCHES;", MachineEdges::searchForAddress);
        Due.sentence(TERMS, "none.", MachineEdges::searchFindsNone);
        Due.sentence(TERMS, "If there is one: in each FRAME above it, from the latest one, all PADS for its ADDRESS that FINISH do, in order,",
            MachineEdges::finishersAbove);
        Due.sentence(TERMS, "then BACK from it;", MachineEdges::backFromEach);
        Due.sentence(TERMS, "in that FRAME those ahead of the PAD that FINISH;", MachineEdges::finishersAhead);
        Due.sentence(TERMS, "then it is at the ADDRESS AT of the PAD (no OPS are done).", MachineEdges::landing);
        Due.sentence(TERMS, "FAR for a TYPE: how many FRAMES are gone then.", MachineEdges::howFar);
        Due.sentence(TERMS, "LOOSE: TYPES that nobody CATCHES now, as bits.", MachineEdges::looseBits);
    }

    private static void whatKindsAre() {
        boolean[][] is = {{true, false, false, false, false}, {true, true, false, false, false}, {true, false, true, false, false},
            {true, false, false, true, false}, {true, false, true, false, true}};
        for (int kind = 0; kind < 5; kind++) {
            Used x = Due.read(";" + LETTERS.charAt(kind) + "0900");
            for (int other = 0; other < 5; other++) {
                Due.is(LETTERS.charAt(kind) + " as " + other, x.as(0, 0, other), is[kind][other] ? 0 : N);
            }
        }
    }

    private static void noTextAtFirst() {
        Used x = new Used();
        for (int what = 0; what < 8; what++) {
            Due.is("count(" + what + ")", x.count(what), 0);
        }
        Due.is("set()", x.set(0, 0), STATE);
        Due.is("loose()", x.loose(), STATE);
        Due.is("call(0)", x.call(0), UNKNOWN);
        Due.write(x, ";");
        Due.is("a TEXT that is not read", x.loose(), STATE);
    }

    private static void nothingDoneThen() {
        Used x = Due.read("s00;a0900");
        Due.is("FRAMES", x.count(2), 0);
        Due.is("frame(0, 0)", x.frame(0, 0), UNKNOWN);
        for (int register = 0; register < 4; register++) {
            Due.is("REGISTER " + register, x.register(register), 0);
        }
        Due.is("what can be taken back", x.count(3), 0);
        Due.is("undo()", x.undo(), STATE);
        Due.is("restore()", x.restore(), STATE);
        Due.is("finished(NONE)", x.finished(N), 0);
        Due.is("what is SEEN", x.count(5), 0);
    }

    /** The TYPES that a PAD of a KIND CATCHES, as bits, by its own TYPE. */
    private static int caught(int kind, int own) {
        int[][] caught = {{1, 2, 4, 8, 16}, {31, 31, 31, 31, 31}, {0, 0, 0, 0, 0}, {31, 30, 28, 24, 16}, {1, 2, 4, 8, 16}};
        return caught[kind][own];
    }

    private static void whoCatches() {
        for (int kind = 0; kind < 5; kind++) {
            for (int own = 0; own < 5; own++) {
                Used x = Due.read(";" + LETTERS.charAt(kind) + "09" + own + "3");
                x.call(0);
                Due.is("loose() with " + LETTERS.charAt(kind) + own, x.loose(), 31 - caught(kind, own));
                for (int type = 0; type < 5; type++) {
                    boolean catches = (caught(kind, own) >> type & 1) == 1;
                    Due.is("raise(" + type + ") with " + LETTERS.charAt(kind) + own, x.raise(type), catches ? 0 : N);
                }
            }
        }
    }

    private static void whoFinishes() {
        for (int kind = 0; kind < 5; kind++) {
            for (int own = 0; own < 5; own++) {
                for (int type = 0; type < 5; type++) {
                    boolean finishes = kind == 2 || kind == 4 && type != own;
                    Used x = Due.read(";" + LETTERS.charAt(kind) + "09" + own + "1a0902");
                    x.call(0);
                    String call = " of " + type + " with " + LETTERS.charAt(kind) + own;
                    Due.is("search" + call, x.search(type, 2), finishes ? 1 : 0);
                    x.raise(type);
                    Due.is("finished" + call, x.finished(N), finishes ? 1 : 0);
                }
            }
        }
    }

    private static void fromTo() {
        for (int from = 0; from < 10; from++) {
            for (int to = from; to < 10; to++) {
                Used x = Due.read(";f" + from + to + "00a" + from + to + "00/;a0900");
                x.call(1);
                x.call(0);
                for (int address = 0; address < 10; address++) {
                    boolean is = from <= address && address <= to;
                    Due.is("who CATCHES from " + from + " to " + to + " at " + address, x.search(0, 0), is ? 0 : 1);
                    Due.is("who FINISHES from " + from + " to " + to + " at " + address, x.search(0, 2), is ? 1 : 0);
                    x.go(1);
                }
            }
        }
    }

    private static void sixCells() {
        Used x = Due.read("s00s01s02s03s04s05;/+1s00s05;");
        x.set(0, 9);
        x.call(0);
        Told.cells(x, 0, 9, 9, 9, 9, 9, 9);
        x.call(1);
        Told.cells(x, 0, 0, 0, 0, 0, 0, 0);
        Told.cells(x, 1, 9, 9, 9, 9, 9, 9);
        x.go(1);
        Told.cells(x, 0, 9, 0, 0, 0, 0, 9);
        // A FRAME where another one was begins with zeros, too.
        x.back();
        x.back();
        x.call(1);
        Told.cells(x, 0, 0, 0, 0, 0, 0, 0);
        Due.is("a seventh CELL is none", x.frame(0, 8), 9);
    }

    private static void numbersOfFrames() {
        Used x = Due.read(";/;/;");
        for (int many = 1; many <= 8; many++) {
            x.call(many % 3);
            for (int frame = 0; frame < many; frame++) {
                Due.is("FUNCTION of FRAME " + frame + " of " + many, x.frame(frame, 0), (many - frame) % 3);
            }
            Due.is("FRAME " + many + " of " + many, x.frame(many, 0), UNKNOWN);
            Due.is("FRAME -1 of " + many, x.frame(-1, 0), UNKNOWN);
        }
    }

    private static void calledAtZero() {
        Used x = Due.read("s00;");
        for (int many = 1; many <= 8; many++) {
            x.set(0, many);
            x.call(0);
            Due.is("ADDRESS", x.frame(0, 1), 0);
            Due.is("CELL 0", x.frame(0, 2), many);
            x.go(9);
        }
        Due.is("ADDRESS of the first one", x.frame(7, 1), 9);
    }

    private static void oneByOne() {
        Used x = Due.read("s00+1s01+1s02+7s03;/s10s20s00u0s01;");
        x.set(0, 5);
        x.call(0);
        Told.cells(x, 0, 5, 0, 0, 0, 0, 0);
        x.go(1);
        Told.cells(x, 0, 5, 5, 0, 0, 0, 0);
        x.back();
        x.call(0);
        x.go(8);
        Told.cells(x, 0, 5, 5, 5, 0, 0, 0);
        x.go(1);
        Told.cells(x, 0, 5, 5, 5, 5, 0, 0);
        x.back();
        x.call(0);
        x.go(9);
        Told.cells(x, 0, 5, 5, 5, 5, 0, 0);
        // Each "s", of several into a CELL the last one, and one that an "u" comes behind.
        x.set(1, 6);
        x.set(2, 7);
        x.call(1);
        Told.cells(x, 0, 5, 5, 0, 0, 0, 0);
    }

    private static void asTheRegisterIsNow() {
        Used x = Due.read("s00+1s01+2s00+6s02;");
        x.set(0, 999);
        x.call(0);
        x.set(0, 1);
        Told.cells(x, 0, 999, 0, 0, 0, 0, 0);
        x.go(2);
        Told.cells(x, 0, 999, 1, 0, 0, 0, 0);
        x.set(0, 2);
        x.go(1);
        Told.cells(x, 0, 2, 1, 0, 0, 0, 0);
        x.set(0, 0);
        x.go(6);
        Told.cells(x, 0, 2, 1, 0, 0, 0, 0);
        x.set(0, 3);
        Told.cells(x, 0, 2, 1, 0, 0, 0, 0);
    }

    /** REGISTER 0 behind BACK from each ADDRESS. */
    private static void backByRows() {
        int[] due = {10, 11, 11, 99, 99, 99, 99, 99, 99, 10};
        for (int address = 0; address < 10; address++) {
            Used x = Due.read("s00m+1s01+2u0+6b;");
            x.set(0, 10);
            x.call(0);
            x.set(0, 11);
            for (int step = 1; step <= address; step++) {
                x.go(1);
            }
            x.set(0, 99);
            Due.is("back()", x.back(), 0);
            Due.is("REGISTER 0 behind BACK from " + address, x.register(0), due[address]);
        }
        twoInOneCell();
    }

    private static void twoInOneCell() {
        Used x = Due.read("s00s10;");
        x.set(0, 1);
        x.set(1, 2);
        x.call(0);
        x.set(1, 3);
        x.back();
        Due.is("REGISTER 0, SAVED in a CELL that REGISTER 1 came into later", x.register(0), 2);
        Due.is("REGISTER 1", x.register(1), 2);
    }

    private static void othersAsTheyAre() {
        Used x = Due.read("s10;");
        for (int register = 0; register < 4; register++) {
            x.set(register, 100 + register);
        }
        x.call(0);
        for (int register = 0; register < 4; register++) {
            x.set(register, 200 + register);
        }
        x.back();
        int[] due = {200, 101, 202, 203};
        for (int register = 0; register < 4; register++) {
            Due.is("REGISTER " + register, x.register(register), due[register]);
        }
    }

    private static void goneBehindBack() {
        Used x = Due.read(";/s00;");
        x.call(0);
        x.go(4);
        x.call(1);
        Due.is("back()", x.back(), 1);
        Due.is("the latest is the one below", x.frame(0, 0), 0);
        Due.is("at its ADDRESS", x.frame(0, 1), 4);
        Due.is("frame(1, 0)", x.frame(1, 0), UNKNOWN);
        Due.is("back()", x.back(), 0);
        Due.is("frame(0, 0)", x.frame(0, 0), UNKNOWN);
    }

    /** Eight FRAMES that SAVE REGISTER 0, and of the others what only some do. */
    private static void callers() {
        Used x = Due.read("s00;/s00s15+9u1;");
        for (int many = 1; many <= 8; many++) {
            x.set(0, many);
            x.set(1, 10 * many);
            x.call(many == 3 || many == 6 ? 1 : 0);
            if (many == 6) {
                x.go(9);
            }
        }
        x.set(0, 9);
        x.set(1, 90);
        x.set(3, 7);
        int[] second = {90, 90, 90, 90, 90, 30, 30, 30};
        long ahead = x.digest();
        for (int frame = 0; frame < 8; frame++) {
            Due.is("CALLER of " + frame + " for 0", x.frame(frame, 8), 8 - frame);
            Due.is("CALLER of " + frame + " for 1", x.frame(frame, 9), second[frame]);
            Due.is("CALLER of " + frame + " for 2", x.frame(frame, 10), 0);
            Due.is("CALLER of " + frame + " for 3", x.frame(frame, 11), 7);
        }
        Due.is("nothing is done by that", x.digest(), ahead);
        for (int frame = 0; frame < 8; frame++) {
            x.back();
            Due.is("REGISTER 0 behind BACK from " + frame, x.register(0), 8 - frame);
            Due.is("REGISTER 1 behind BACK from " + frame, x.register(1), second[frame]);
        }
    }

    private static void typesThrown() {
        Used x = Due.read(";a0900");
        x.call(0);
        for (int type = 0; type <= 4; type++) {
            Due.is("raise(" + type + ")", x.raise(type), 0);
        }
        Due.is("raise(-1)", x.raise(-1), OUTSIDE);
        Due.is("raise(5)", x.raise(5), OUTSIDE);
    }

    private static void searchInOrder() {
        Used x = Due.read(";c0911u0922a0933/;u0944");
        x.call(0);
        x.call(1);
        x.call(0);
        Told.search(x, 0, 0, 2, 0);
        Told.search(x, 1, 0, 0, 0);
        Told.search(x, 2, 0, 1, 0);
        Told.search(x, 4, 0, 1, 0);
        x.back();
        Told.search(x, 4, 0, 0, 0);
        Told.search(x, 3, 1, 1, 0);
        Told.search(x, 0, 1, 2, 0);
    }

    private static void searchForAddress() {
        Used x = Due.read(";a0000f1100a1200/;a0900");
        x.call(1);
        x.call(0);
        Told.search(x, 0, 0, 0, 0);
        x.go(1);
        Told.search(x, 0, 0, 2, 1);
        x.go(1);
        Told.search(x, 0, 0, 2, 0);
        x.go(1);
        Told.search(x, 0, 1, 0, 0);
        x.go(6);
        Told.search(x, 0, 1, 0, 0);
    }

    private static void searchFindsNone() {
        Used x = Due.read(";c0930f0900/;");
        Told.search(x, 3, N, N, N);
        x.call(1);
        Told.search(x, 3, N, N, N);
        x.call(0);
        Told.search(x, 3, 0, 0, 0);
        Told.search(x, 2, N, N, N);
        Told.search(x, 4, N, N, N);
    }

    private static void finishersAbove() {
        Used x = Due.read(";a0900/;f0000g0940f1900/;c0930g0930f0900");
        x.call(0);
        x.call(1);
        x.call(2);
        x.call(1);
        x.go(1);
        Told.search(x, 2, 3, 0, 6);
        Due.is("raise(2)", x.raise(2), 3);
        Told.finished(x, 11, 12, 21, 22, 10, 11);
        x.undo();
        Due.is("raise(3)", x.raise(3), 1);
        Told.finished(x, 11, 12);
        x.undo();
        Due.is("raise(4)", x.raise(4), 0);
        Told.finished(x);
    }

    private static void backFromEach() {
        Used x = Due.read("s00;a0900/s00s11+1u1;/s20;");
        x.set(0, 1);
        x.call(0);
        x.set(0, 2);
        x.set(1, 12);
        x.call(1);
        x.go(1);
        x.set(0, 3);
        x.set(1, 13);
        x.set(2, 23);
        x.call(2);
        x.set(0, 4);
        x.set(2, 24);
        x.set(3, 34);
        Due.is("raise(0)", x.raise(0), 2);
        int[] due = {2, 13, 23, 34};
        for (int register = 0; register < 4; register++) {
            Due.is("REGISTER " + register, x.register(register), due[register]);
        }
        Due.is("FRAMES", x.count(2), 1);
        Due.is("what the one below had SAVED", x.frame(0, 2), 1);
    }

    private static void finishersAhead() {
        Used x = Due.read(";f0900c0900f0900/;g0910f1900a0900");
        x.call(0);
        Told.search(x, 0, 0, 1, 1);
        x.raise(0);
        Told.finished(x, 0);
        x.call(1);
        Told.search(x, 0, 0, 2, 1);
        x.raise(0);
        Told.finished(x, 10);
        x.go(1);
        Told.search(x, 0, 0, 2, 2);
        x.raise(0);
        Told.finished(x, 10, 11);
        Told.search(x, 1, 0, 0, 0);
    }

    private static void landing() {
        for (int at = 0; at <= 9; at++) {
            Used x = Due.read("s00+5s01+4s02;a550" + at + "a0909");
            x.set(0, 7);
            x.call(0);
            x.set(0, 8);
            x.go(5);
            x.set(0, 9);
            Due.is("raise(0)", x.raise(0), 0);
            Due.is("ADDRESS", x.frame(0, 1), at);
            Told.cells(x, 0, 7, 8, 0, 0, 0, 0);
            Due.is("REGISTER 0", x.register(0), 9);
            if (at != 5) {
                Due.is("raise(0)", x.raise(0), 0);
                Due.is("ADDRESS", x.frame(0, 1), 9);
                Told.cells(x, 0, 7, 8, 0, 0, 0, 0);
            }
        }
    }

    private static void howFar() {
        Used x = Due.read(";c0900/;");
        x.call(0);
        for (int far = 0; far <= 7; far++) {
            Due.is("FAR", x.search(0, 0), far);
            Due.is("raise(0)", x.raise(0), far);
            Due.is("FRAMES", x.count(2), 1);
            x.undo();
            x.call(1);
        }
    }

    private static void looseBits() {
        Used x = Due.read(";c0900/;c0910c0940/;u0930");
        Due.is("without a FRAME", x.loose(), 31);
        x.call(0);
        Due.is("0 is caught", x.loose(), 30);
        x.call(1);
        Due.is("0, 1 and 4 are caught", x.loose(), 12);
        x.back();
        x.call(2);
        Due.is("0, 3 and 4 are caught", x.loose(), 6);
        x.change(2, 0, 1);
        Due.is("each is caught", x.loose(), 0);
        x.change(2, 0, 2);
        Due.is("0 is caught", x.loose(), 30);
    }
}
