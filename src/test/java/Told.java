/** What several calls in a row tell of one thing. */
final class Told {
    private Told() {
    }

    /** What row() tells, from 0 on. */
    static void row(Used x, int function, int address, int... due) {
        for (int what = 0; what < due.length; what++) {
            Due.is("row(" + function + ", " + address + ", " + what + ")", x.row(function, address, what), due[what]);
        }
    }

    static void cells(Used x, int frame, int... due) {
        for (int cell = 0; cell < 6; cell++) {
            Due.is("CELL " + cell + " of FRAME " + frame, x.frame(frame, 2 + cell), due[cell]);
        }
    }

    static void search(Used x, int type, int frame, int pad, int finishing) {
        Due.is("search(" + type + ", 0)", x.search(type, 0), frame);
        Due.is("search(" + type + ", 1)", x.search(type, 1), pad);
        Due.is("search(" + type + ", 2)", x.search(type, 2), finishing);
    }

    /** All that FINISHED, in order, and that there is no more. */
    static void finished(Used x, int... due) {
        Due.is("finished(NONE)", x.finished(RowUnwinder.NONE), due.length);
        for (int number = 0; number < due.length; number++) {
            Due.is("finished(" + number + ")", x.finished(number), due[number]);
        }
        Due.is("finished(" + due.length + ")", x.finished(due.length), RowUnwinder.UNKNOWN);
    }
}
