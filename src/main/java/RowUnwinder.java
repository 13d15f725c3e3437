import java.util.Arrays;

/** A stack of calls that can be wound back by the rows of its functions, and a machine that throws through it. */
public final class RowUnwinder {
    public static final int NONE = -1, UNKNOWN = -101, OUTSIDE = -102, STATE = -103, FULL = -104;

    private static final int LETTERS = 100, LAST_CODE = 126;
    private static final int FUNCTIONS = 3, ADDRESSES = 10, OPS = 8, PADS = 3, REMEMBERED = 3;
    private static final int REGISTERS = 4, CELLS = 6, FRAMES = 8, VALUES = 1000;
    private static final int KINDS = 5, TYPES = 5, UNDOABLE = 30, SEEN = 6;

    // What row(), pad(), frame(), search(), drawn() and count() tell, by their last argument.
    private static final int ROW_TELLS = 6, PAD_TELLS = 7, FRAME_TELLS = 12;
    private static final int SEARCH_TELLS = 3, DRAWN_TELLS = 3, COUNT_TELLS = 8;
    private static final int ROW_DEPTH = 4, ROW_OP = 5;
    private static final int PAD_KIND = 0, PAD_FROM = 1, PAD_TO = 2, PAD_TYPE = 3, PAD_AT = 4, PAD_SORTS = 5;
    private static final int PAD_LETTERS = 5;

    private static final int PLAIN = 0, ALL = 1, FINISH = 2, UP = 3, GUARD = 4;
    private static final int IDLE = 0, CAUGHT = 1, FINISHED = 2, DEEDS = 3;

    private final Page page;
    private final History history, keptHistory;
    private final Sights sights, keptSights;
    private Machine machine;
    private Machine kept;
    private int textsRead;

    public RowUnwinder() {
        page = new Page();
        history = new History();
        keptHistory = new History();
        sights = new Sights();
        keptSights = new Sights();
        machine = new Machine(new Code());
        kept = null;
        textsRead = 0;
    }

    // ---- the text

    public int letter(int code) {
        if (code < 1 || code > LAST_CODE) {
            return OUTSIDE;
        }
        if (page.length >= LETTERS) {
            return FULL;
        }
        page.write(code);
        return page.length;
    }

    public int blank() {
        int had = page.length;
        page.length = 0;
        return had;
    }

    public int fault() {
        return new Reader().firstFault(page);
    }

    public int text() {
        Reader reader = new Reader();
        if (reader.firstFault(page) < page.length || !reader.mayEnd()) {
            return STATE;
        }
        Code code = new Code();
        new Scribe(page, code).writeText();
        machine = new Machine(code);
        history.empty();
        sights.many = 0;
        kept = null;
        page.length = 0;
        textsRead++;
        return code.functions;
    }

    public int row(int function, int address, int what) {
        if (!isFunction(function) || !isBelow(address, ADDRESSES)) {
            return UNKNOWN;
        }
        if (!isBelow(what, ROW_TELLS)) {
            return OUTSIDE;
        }
        return machine.code.rowPart(function, address, what);
    }

    public int pad(int function, int pad, int what) {
        if (!isPad(function, pad)) {
            return UNKNOWN;
        }
        if (!isBelow(what, PAD_TELLS)) {
            return OUTSIDE;
        }
        if (what == PAD_KIND) {
            return machine.kinds[slot(function, pad)];
        }
        if (what <= PAD_AT) {
            return machine.code.padPart(function, pad, what);
        }
        int own = machine.code.padPart(function, pad, PAD_TYPE);
        int sorts = sights.sortsOf(slot(function, pad), own);
        return what == PAD_SORTS ? sorts : bestToThrow(sorts, own);
    }

    public int as(int function, int pad, int kind) {
        if (!isPad(function, pad)) {
            return UNKNOWN;
        }
        if (!isBelow(kind, KINDS)) {
            return OUTSIDE;
        }
        return isOfKind(machine.kinds[slot(function, pad)], kind) ? pad : NONE;
    }

    public int frame(int frame, int what) {
        if (!isBelow(frame, machine.frames)) {
            return UNKNOWN;
        }
        if (!isBelow(what, FRAME_TELLS)) {
            return OUTSIDE;
        }
        int level = machine.levelOf(frame);
        if (what == 0) {
            return machine.functions[level];
        }
        if (what == 1) {
            return machine.addresses[level];
        }
        if (what < 2 + CELLS) {
            return machine.cells[level * CELLS + what - 2];
        }
        return machine.callerOf(level, what - 2 - CELLS);
    }

    public int register(int register) {
        if (!isBelow(register, REGISTERS)) {
            return UNKNOWN;
        }
        return machine.registers[register];
    }

    // ---- what is done

    public int call(int function) {
        if (!isFunction(function)) {
            return UNKNOWN;
        }
        if (machine.frames >= FRAMES) {
            return FULL;
        }
        beginDoing();
        machine.enter(function);
        return machine.frames;
    }

    public int go(int by) {
        if (by < 1 || by >= ADDRESSES) {
            return OUTSIDE;
        }
        if (machine.frames < 1 || machine.latestAddress() + by >= ADDRESSES) {
            return STATE;
        }
        beginDoing();
        for (int step = 0; step < by; step++) {
            machine.step();
        }
        return machine.latestAddress();
    }

    public int set(int register, int value) {
        if (!isBelow(register, REGISTERS)) {
            return UNKNOWN;
        }
        if (!isBelow(value, VALUES)) {
            return OUTSIDE;
        }
        if (!hasText()) {
            return STATE;
        }
        beginDoing();
        int was = machine.registers[register];
        machine.registers[register] = value;
        return was;
    }

    public int back() {
        if (machine.frames < 1) {
            return STATE;
        }
        beginDoing();
        machine.leave();
        return machine.frames;
    }

    public int raise(int type) {
        if (!isBelow(type, TYPES)) {
            return OUTSIDE;
        }
        if (!hasText()) {
            return STATE;
        }
        int catcher = machine.catcherOf(type);
        if (catcher == NONE) {
            return NONE;
        }
        beginDoing();
        machine.unwindTo(catcher, type);
        return catcher / PADS;
    }

    public int change(int function, int pad, int kind) {
        if (!isPad(function, pad)) {
            return UNKNOWN;
        }
        if (!isBelow(kind, KINDS)) {
            return OUTSIDE;
        }
        beginDoing();
        int was = machine.kinds[slot(function, pad)];
        machine.kinds[slot(function, pad)] = kind;
        return was;
    }

    public int undo() {
        if (history.many < 1) {
            return STATE;
        }
        machine = history.takeLatest(machine);
        return history.many;
    }

    // ---- what would be

    public int search(int type, int what) {
        if (!isBelow(type, TYPES) || !isBelow(what, SEARCH_TELLS)) {
            return OUTSIDE;
        }
        if (!hasText()) {
            return STATE;
        }
        int catcher = machine.catcherOf(type);
        if (catcher == NONE) {
            return NONE;
        }
        if (what == 2) {
            return machine.countFinishing(catcher, type);
        }
        return what == 0 ? catcher / PADS : catcher % PADS;
    }

    public int loose() {
        if (!hasText()) {
            return STATE;
        }
        int bits = 0;
        for (int type = 0; type < TYPES; type++) {
            if (machine.catcherOf(type) == NONE) {
                bits |= 1 << type;
            }
        }
        return bits;
    }

    public int finished(int number) {
        if (number == NONE) {
            return machine.finishers;
        }
        if (!isBelow(number, machine.finishers)) {
            return UNKNOWN;
        }
        return machine.finished[number];
    }

    public int same(int one, int other) {
        if (!isFunction(one) || !isFunction(other)) {
            return UNKNOWN;
        }
        for (int address = 0; address < ADDRESSES; address++) {
            for (int register = 0; register < REGISTERS; register++) {
                if (machine.code.rowPart(one, address, register) != machine.code.rowPart(other, address, register)) {
                    return 0;
                }
            }
        }
        return 1;
    }

    // ---- what is seen

    public int see(int function, int pad, int type, int did) {
        if (!isPad(function, pad)) {
            return UNKNOWN;
        }
        if (!isBelow(type, TYPES) || !isBelow(did, DEEDS)) {
            return OUTSIDE;
        }
        if (sights.many >= SEEN) {
            return FULL;
        }
        sights.note(slot(function, pad), type, did);
        return sights.many;
    }

    public int forget() {
        int had = sights.many;
        sights.many = 0;
        return had;
    }

    public int drawn(int times, int seed, int what) {
        if (times < 1 || times > 99 || seed < 0 || !isBelow(what, DRAWN_TELLS)) {
            return OUTSIDE;
        }
        if (!hasText()) {
            return STATE;
        }
        Machine trial = new Machine(machine);
        Draws draws = new Draws(seed);
        int catches = 0;
        for (int time = 0; time < times; time++) {
            if (draws.doOne(trial)) {
                catches++;
            }
        }
        if (what == 0) {
            return catches;
        }
        return what == 1 ? trial.frames : (int) draws.seed;
    }

    // ---- what is told of all

    public int image() {
        if (!hasText()) {
            return STATE;
        }
        kept = machine;
        keptHistory.become(history);
        keptSights.become(sights);
        return machine.frames;
    }

    public int restore() {
        if (kept == null) {
            return STATE;
        }
        machine = kept;
        history.become(keptHistory);
        sights.become(keptSights);
        return machine.frames;
    }

    public int count(int what) {
        if (!isBelow(what, COUNT_TELLS)) {
            return OUTSIDE;
        }
        switch (what) {
            case 0: return machine.code.functions;
            case 1: return machine.code.countPads();
            case 2: return machine.frames;
            case 3: return history.many;
            case 4: return machine.code.countSavingAddresses();
            case 5: return sights.many;
            case 6: return page.length;
            default: return textsRead;
        }
    }

    public long digest() {
        long h = 1399;
        for (int function = 0; function < machine.code.functions; function++) {
            h = digestFunction(h, function);
        }
        for (int number = 0; number < machine.frames; number++) {
            for (int what = 0; what < FRAME_TELLS; what++) {
                h = folded(h, frame(number, what));
            }
        }
        for (int number = 0; number < REGISTERS; number++) {
            h = folded(h, register(number));
        }
        if (hasText()) {
            h = digestThrowing(h);
        }
        for (int number = NONE; number < machine.finishers; number++) {
            h = folded(h, finished(number));
        }
        for (int place = 0; place < page.length; place++) {
            h = folded(h, page.codeAt(place));
        }
        for (int what = 0; what < COUNT_TELLS; what++) {
            h = folded(h, count(what));
        }
        return h;
    }

    private long digestFunction(long begun, int function) {
        long h = begun;
        for (int address = 0; address < ADDRESSES; address++) {
            for (int what = 0; what < ROW_TELLS; what++) {
                h = folded(h, row(function, address, what));
            }
        }
        for (int number = 0; number < machine.code.padCount(function); number++) {
            for (int what = 0; what < PAD_TELLS; what++) {
                h = folded(h, pad(function, number, what));
            }
        }
        return h;
    }

    private long digestThrowing(long begun) {
        long h = begun;
        for (int type = 0; type < TYPES; type++) {
            for (int what = 0; what < SEARCH_TELLS; what++) {
                h = folded(h, search(type, what));
            }
        }
        return folded(h, loose());
    }

    private static long folded(long h, long number) {
        return 31 * h + number;
    }

    private boolean hasText() {
        return machine.code.functions > 0;
    }

    private boolean isFunction(int function) {
        return isBelow(function, machine.code.functions);
    }

    private boolean isPad(int function, int pad) {
        return isFunction(function) && isBelow(pad, machine.code.padCount(function));
    }

    /** What stood so far is never changed again, so history and image may hold it as it is. */
    private void beginDoing() {
        history.add(machine);
        machine = new Machine(machine);
    }

    private static boolean isBelow(int number, int bound) {
        return number >= 0 && number < bound;
    }

    private static int slot(int function, int pad) {
        return function * PADS + pad;
    }

    private static int kindOfLetter(int code) {
        switch (code) {
            case 'c': return PLAIN;
            case 'a': return ALL;
            case 'f': return FINISH;
            case 'u': return UP;
            case 'g': return GUARD;
            default: return NONE;
        }
    }

    private static boolean isOfKind(int kind, int other) {
        return other == PLAIN || kind == other || kind == GUARD && other == FINISH;
    }

    /** What a PAD of a KIND and with a TYPE of its own does when a TYPE is thrown at one of its addresses. */
    private static int deedOf(int kind, int own, int thrown) {
        switch (kind) {
            case PLAIN: return thrown == own ? CAUGHT : IDLE;
            case ALL: return CAUGHT;
            case FINISH: return FINISHED;
            case UP: return thrown >= own ? CAUGHT : IDLE;
            default: return thrown == own ? CAUGHT : FINISHED;
        }
    }

    private static int bestToThrow(int sorts, int own) {
        int best = NONE;
        int fewest = KINDS + 1;
        for (int type = 0; type < TYPES && sorts != 0; type++) {
            int left = leftAtWorst(sorts, own, type);
            if (left < fewest) {
                fewest = left;
                best = type;
            }
        }
        return best;
    }

    private static int leftAtWorst(int sorts, int own, int type) {
        int worst = 0;
        for (int did = 0; did < DEEDS; did++) {
            int left = 0;
            for (int kind = 0; kind < KINDS; kind++) {
                if ((sorts >> kind & 1) == 1 && deedOf(kind, own, type) == did) {
                    left++;
                }
            }
            worst = Math.max(worst, left);
        }
        return worst;
    }

    /** The letters that are not yet read as a text. */
    private static final class Page {
        final int[] codes = new int[LETTERS];
        int length = 0;

        void write(int code) {
            if (length < LETTERS) {
                codes[length] = code;
                length++;
            }
        }

        /** 0, which is no letter, where there is none. */
        int codeAt(int place) {
            return isBelow(place, length) ? codes[place] : 0;
        }

        int digitAt(int place) {
            return codeAt(place) - '0';
        }
    }

    /** Takes letter by letter what a TEXT may have there, and knows of each next one whether it may. */
    private static final class Reader {
        private static final int OP = 0, FARTHER = 1, SAVED_REGISTER = 2, SAVED_CELL = 3, FREED_REGISTER = 4;
        private static final int BETWEEN_PADS = 5, FROM = 6, TO = 7, TYPE = 8, AT = 9;

        int due = OP;
        int functions = 1;
        int ops = 0;
        int address = 0;
        int remembered = 0;
        int pads = 0;
        int from = 0;

        /** On a new reader only: the place of the first letter that is not taken, or the page's length. */
        int firstFault(Page page) {
            for (int place = 0; place < page.length; place++) {
                if (!takes(page.codeAt(place))) {
                    return place;
                }
            }
            return page.length;
        }

        boolean mayEnd() {
            return due == BETWEEN_PADS;
        }

        boolean takes(int code) {
            switch (due) {
                case OP: return takesOp(code);
                case FARTHER: return takesFarther(code - '0');
                case SAVED_REGISTER: return takesDigit(code, 0, REGISTERS - 1, SAVED_CELL);
                case SAVED_CELL: return takesDigit(code, 0, CELLS - 1, OP);
                case FREED_REGISTER: return takesDigit(code, 0, REGISTERS - 1, OP);
                case BETWEEN_PADS: return takesBetweenPads(code);
                case FROM:
                    from = code - '0';
                    return takesDigit(code, 0, ADDRESSES - 1, TO);
                case TO: return takesDigit(code, from, ADDRESSES - 1, TYPE);
                case TYPE: return takesDigit(code, 0, TYPES - 1, AT);
                default: return takesDigit(code, 0, ADDRESSES - 1, BETWEEN_PADS);
            }
        }

        private boolean takesOp(int code) {
            if (code == ';') {
                due = BETWEEN_PADS;
                return true;
            }
            ops++;
            return ops <= OPS && takesOpLetter(code);
        }

        private boolean takesOpLetter(int code) {
            switch (code) {
                case '+':
                    due = FARTHER;
                    return true;
                case 's':
                    due = SAVED_REGISTER;
                    return true;
                case 'u':
                    due = FREED_REGISTER;
                    return true;
                case 'm':
                    remembered++;
                    return remembered <= REMEMBERED;
                case 'b':
                    remembered--;
                    return remembered >= 0;
                default:
                    return false;
            }
        }

        private boolean takesFarther(int by) {
            if (by < 1 || address + by >= ADDRESSES) {
                return false;
            }
            address += by;
            due = OP;
            return true;
        }

        private boolean takesDigit(int code, int least, int most, int next) {
            int digit = code - '0';
            due = next;
            return digit >= least && digit <= most;
        }

        private boolean takesBetweenPads(int code) {
            if (code == '/') {
                beginFunction();
                return functions <= FUNCTIONS;
            }
            pads++;
            due = FROM;
            return pads <= PADS && kindOfLetter(code) != NONE;
        }

        private void beginFunction() {
            functions++;
            due = OP;
            ops = 0;
            address = 0;
            remembered = 0;
            pads = 0;
        }
    }

    /** The functions of a text as they were written: rows, saves in their order, pads. */
    private static final class Code {
        private static final int SAVE_PARTS = 3;

        int functions = 0;
        private final int[] rows = new int[FUNCTIONS * ADDRESSES * ROW_TELLS];
        private final int[] saves = new int[FUNCTIONS * OPS * SAVE_PARTS];
        private final int[] saveCounts = new int[FUNCTIONS];
        private final int[] pads = new int[FUNCTIONS * PADS * PAD_LETTERS];
        private final int[] padCounts = new int[FUNCTIONS];

        int rowPart(int function, int address, int what) {
            return rows[(function * ADDRESSES + address) * ROW_TELLS + what];
        }

        void writeRowPart(int function, int address, int what, int value) {
            rows[(function * ADDRESSES + address) * ROW_TELLS + what] = value;
        }

        int padCount(int function) {
            return padCounts[function];
        }

        void writePadCount(int function, int many) {
            padCounts[function] = many;
        }

        int padPart(int function, int pad, int what) {
            return pads[(function * PADS + pad) * PAD_LETTERS + what];
        }

        void writePadPart(int function, int pad, int what, int value) {
            pads[(function * PADS + pad) * PAD_LETTERS + what] = value;
        }

        int saveCount(int function) {
            return saveCounts[function];
        }

        int saveAddress(int function, int save) {
            return saves[(function * OPS + save) * SAVE_PARTS];
        }

        int saveRegister(int function, int save) {
            return saves[(function * OPS + save) * SAVE_PARTS + 1];
        }

        int saveCell(int function, int save) {
            return saves[(function * OPS + save) * SAVE_PARTS + 2];
        }

        void addSave(int function, int address, int register, int cell) {
            if (saveCounts[function] >= OPS) {
                return;
            }
            int start = (function * OPS + saveCounts[function]) * SAVE_PARTS;
            saves[start] = address;
            saves[start + 1] = register;
            saves[start + 2] = cell;
            saveCounts[function]++;
        }

        int countPads() {
            int many = 0;
            for (int function = 0; function < functions; function++) {
                many += padCounts[function];
            }
            return many;
        }

        int countSavingAddresses() {
            int many = 0;
            for (int function = 0; function < functions; function++) {
                for (int address = 0; address < ADDRESSES; address++) {
                    if (isAnythingSaved(function, address)) {
                        many++;
                    }
                }
            }
            return many;
        }

        private boolean isAnythingSaved(int function, int address) {
            for (int register = 0; register < REGISTERS; register++) {
                if (rowPart(function, address, register) != NONE) {
                    return true;
                }
            }
            return false;
        }
    }

    /** Writes a page that is a whole TEXT, as a Reader has found, down as Code. */
    private static final class Scribe {
        private final Page page;
        private final Code code;
        private final int[] saved = new int[REGISTERS];
        private final int[] remembered = new int[REMEMBERED * REGISTERS];
        private int depth = 0;
        private int place = 0;
        private int address = 0;
        private int opAddress = 0;

        Scribe(Page page, Code code) {
            this.page = page;
            this.code = code;
        }

        void writeText() {
            for (int function = 0; function < FUNCTIONS && place < page.length; function++) {
                writeProgram(function);
                place++;
                writePads(function);
                place++;
                code.functions++;
            }
        }

        private void writeProgram(int function) {
            Arrays.fill(saved, NONE);
            depth = 0;
            address = 0;
            opAddress = 0;
            for (int op = 0; op < OPS && page.codeAt(place) != ';'; op++) {
                writeOp(function);
            }
            writeRowsTo(function, ADDRESSES);
        }

        private void writeOp(int function) {
            int letter = page.codeAt(place);
            int digit = page.digitAt(place + 1);
            if (letter == '+') {
                writeRowsTo(function, address + digit);
                place += 2;
                return;
            }
            opAddress = address;
            if (letter == 's') {
                save(function, digit, page.digitAt(place + 2));
                place += 3;
            } else if (letter == 'u') {
                free(digit);
                place += 2;
            } else {
                rememberOrGoBack(letter);
                place++;
            }
        }

        private void save(int function, int register, int cell) {
            if (isBelow(register, REGISTERS) && isBelow(cell, CELLS)) {
                saved[register] = cell;
                code.addSave(function, address, register, cell);
            }
        }

        private void free(int register) {
            if (isBelow(register, REGISTERS)) {
                saved[register] = NONE;
            }
        }

        private void rememberOrGoBack(int letter) {
            if (letter == 'm' && depth < REMEMBERED) {
                System.arraycopy(saved, 0, remembered, depth * REGISTERS, REGISTERS);
                depth++;
            } else if (letter == 'b' && depth > 0) {
                depth--;
                System.arraycopy(remembered, depth * REGISTERS, saved, 0, REGISTERS);
            }
        }

        /** What holds now holds up to the next ADDRESS at which an OP may stand. */
        private void writeRowsTo(int function, int next) {
            for (int passed = address; passed < next && passed < ADDRESSES; passed++) {
                for (int register = 0; register < REGISTERS; register++) {
                    code.writeRowPart(function, passed, register, saved[register]);
                }
                code.writeRowPart(function, passed, ROW_DEPTH, depth);
                code.writeRowPart(function, passed, ROW_OP, opAddress);
            }
            address = next;
        }

        private void writePads(int function) {
            for (int pad = 0; pad < PADS && kindOfLetter(page.codeAt(place)) != NONE; pad++) {
                code.writePadPart(function, pad, PAD_KIND, kindOfLetter(page.codeAt(place)));
                for (int part = PAD_FROM; part < PAD_LETTERS; part++) {
                    code.writePadPart(function, pad, part, page.digitAt(place + part));
                }
                code.writePadCount(function, pad + 1);
                place += PAD_LETTERS;
            }
        }
    }

    /**
     * KINDS, REGISTERS, FRAMES and what FINISHED. FRAMES lie in levels, from the first one (level 0) up to the
     * latest one, so that a call and a BACK leave the others where they are.
     */
    private static final class Machine {
        final Code code;
        final int[] kinds;
        final int[] registers;
        final int[] functions;
        final int[] addresses;
        final int[] cells;
        final int[] finished;
        int frames;
        int finishers;

        Machine(Code code) {
            this.code = code;
            kinds = new int[FUNCTIONS * PADS];
            registers = new int[REGISTERS];
            functions = new int[FRAMES];
            addresses = new int[FRAMES];
            cells = new int[FRAMES * CELLS];
            finished = new int[FRAMES * PADS];
            frames = 0;
            finishers = 0;
            for (int function = 0; function < code.functions; function++) {
                for (int pad = 0; pad < code.padCount(function); pad++) {
                    kinds[slot(function, pad)] = code.padPart(function, pad, PAD_KIND);
                }
            }
        }

        Machine(Machine other) {
            code = other.code;
            kinds = other.kinds.clone();
            registers = other.registers.clone();
            functions = other.functions.clone();
            addresses = other.addresses.clone();
            cells = other.cells.clone();
            finished = other.finished.clone();
            frames = other.frames;
            finishers = other.finishers;
        }

        int levelOf(int frame) {
            return frames - 1 - frame;
        }

        int latestAddress() {
            return frames > 0 ? addresses[frames - 1] : 0;
        }

        void enter(int function) {
            if (frames >= FRAMES) {
                return;
            }
            functions[frames] = function;
            addresses[frames] = 0;
            for (int cell = 0; cell < CELLS; cell++) {
                cells[frames * CELLS + cell] = 0;
            }
            frames++;
            saveAtLatest();
        }

        void step() {
            if (frames > 0) {
                addresses[frames - 1]++;
                saveAtLatest();
            }
        }

        private void saveAtLatest() {
            int level = frames - 1;
            int function = functions[level];
            for (int save = 0; save < code.saveCount(function); save++) {
                if (code.saveAddress(function, save) == addresses[level]) {
                    cells[level * CELLS + code.saveCell(function, save)] = registers[code.saveRegister(function, save)];
                }
            }
        }

        void leave() {
            if (frames < 1) {
                return;
            }
            for (int register = 0; register < REGISTERS; register++) {
                registers[register] = behindBack(frames - 1, register, registers[register]);
            }
            frames--;
        }

        /** What a REGISTER is behind BACK from the FRAME at a level, if it is so ahead of it. */
        private int behindBack(int level, int register, int ahead) {
            int cell = code.rowPart(functions[level], addresses[level], register);
            return cell == NONE ? ahead : cells[level * CELLS + cell];
        }

        int callerOf(int lowest, int register) {
            int value = registers[register];
            for (int level = frames - 1; level >= lowest && level >= 0; level--) {
                value = behindBack(level, register, value);
            }
            return value;
        }

        /** PADS times the FRAME that CATCHES, and its PAD; NONE. */
        int catcherOf(int type) {
            for (int frame = 0; frame < frames; frame++) {
                int level = levelOf(frame);
                for (int pad = 0; pad < code.padCount(functions[level]); pad++) {
                    if (deedAt(level, pad, type) == CAUGHT) {
                        return frame * PADS + pad;
                    }
                }
            }
            return NONE;
        }

        private int deedAt(int level, int pad, int type) {
            int function = functions[level];
            int address = addresses[level];
            if (address < code.padPart(function, pad, PAD_FROM) || address > code.padPart(function, pad, PAD_TO)) {
                return IDLE;
            }
            return deedOf(kinds[slot(function, pad)], code.padPart(function, pad, PAD_TYPE), type);
        }

        int countFinishing(int catcher, int type) {
            int many = 0;
            for (int ahead = 0; ahead < catcher; ahead++) {
                int level = levelOf(ahead / PADS);
                if (ahead % PADS < code.padCount(functions[level]) && deedAt(level, ahead % PADS, type) == FINISHED) {
                    many++;
                }
            }
            return many;
        }

        void unwindTo(int catcher, int type) {
            int far = catcher / PADS;
            if (catcher < 0 || far >= frames) {
                return;
            }
            finishers = 0;
            for (int gone = 0; gone < far; gone++) {
                finishAtLatest(code.padCount(functions[frames - 1]), type);
                leave();
            }
            finishAtLatest(catcher % PADS, type);
            addresses[frames - 1] = code.padPart(functions[frames - 1], catcher % PADS, PAD_AT);
        }

        private void finishAtLatest(int pads, int type) {
            int level = frames - 1;
            for (int pad = 0; pad < pads && finishers < finished.length; pad++) {
                if (deedAt(level, pad, type) == FINISHED) {
                    finished[finishers] = 10 * functions[level] + pad;
                    finishers++;
                }
            }
        }
    }

    /** The machines as they stood ahead of what was done, the latest ones, as a ring. */
    private static final class History {
        private final Machine[] past = new Machine[UNDOABLE];
        private int next = 0;
        int many = 0;

        void empty() {
            many = 0;
        }

        void add(Machine machine) {
            past[next] = machine;
            next = (next + 1) % UNDOABLE;
            many = Math.min(many + 1, UNDOABLE);
        }

        /** The one given, if there is none. */
        Machine takeLatest(Machine present) {
            if (many < 1) {
                return present;
            }
            next = (next + UNDOABLE - 1) % UNDOABLE;
            many--;
            return past[next];
        }

        void become(History other) {
            for (int place = 0; place < UNDOABLE; place++) {
                past[place] = other.past[place];
            }
            next = other.next;
            many = other.many;
        }
    }

    /** What was SEEN, in order. */
    private static final class Sights {
        private final int[] slots = new int[SEEN];
        private final int[] types = new int[SEEN];
        private final int[] deeds = new int[SEEN];
        int many = 0;

        void note(int slot, int type, int did) {
            if (many < SEEN) {
                slots[many] = slot;
                types[many] = type;
                deeds[many] = did;
                many++;
            }
        }

        int sortsOf(int slot, int own) {
            int bits = 0;
            for (int kind = 0; kind < KINDS; kind++) {
                if (canBe(kind, slot, own)) {
                    bits |= 1 << kind;
                }
            }
            return bits;
        }

        private boolean canBe(int kind, int slot, int own) {
            for (int sight = 0; sight < many; sight++) {
                if (slots[sight] == slot && deedOf(kind, own, types[sight]) != deeds[sight]) {
                    return false;
                }
            }
            return true;
        }

        void become(Sights other) {
            System.arraycopy(other.slots, 0, slots, 0, SEEN);
            System.arraycopy(other.types, 0, types, 0, SEEN);
            System.arraycopy(other.deeds, 0, deeds, 0, SEEN);
            many = other.many;
        }
    }

    /** Draws by a SEED, and what they make a machine do. */
    private static final class Draws {
        long seed;

        Draws(int seed) {
            this.seed = seed;
        }

        int draw(int bound) {
            seed = (1103515245L * seed + 12345L) % 2147483648L;
            return bound < 1 ? 0 : (int) (seed / 65536L % bound);
        }

        /** Whether somebody CAUGHT. */
        boolean doOne(Machine machine) {
            switch (draw(4)) {
                case 0:
                    machine.enter(draw(machine.code.functions));
                    return false;
                case 1:
                    if (machine.latestAddress() < ADDRESSES - 1) {
                        machine.step();
                    }
                    return false;
                case 2:
                    int register = draw(REGISTERS);
                    machine.registers[register] = draw(VALUES);
                    return false;
                default:
                    return throwDrawn(machine);
            }
        }

        private boolean throwDrawn(Machine machine) {
            int type = draw(TYPES);
            int catcher = machine.catcherOf(type);
            if (catcher == NONE) {
                return false;
            }
            machine.unwindTo(catcher, type);
            return true;
        }
    }
}
