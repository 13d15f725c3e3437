import java.util.ArrayList;
import java.util.List;
import java.util.regex.Matcher;
import java.util.regex.Pattern;

/**
 * The document done in the plainest way, for comparison: pages are matched by patterns, rows are replayed from the
 * text each time, and what is done is a list of steps that is done again from the start when one is taken back.
 */
final class Model implements Face {
    private static final String KIND_LETTERS = "cafug";
    private static final Pattern SHAPE = Pattern.compile(shape());

    private final StringBuilder page = new StringBuilder();
    private String[] functions = new String[0];
    private List<int[]> done = new ArrayList<>();
    private int undoable = 0;
    private List<int[]> seen = new ArrayList<>();
    private List<int[]> keptDone = null;
    private int keptUndoable;
    private List<int[]> keptSeen;
    private int texts = 0;
    private Present now = new Present();

    /** What stands behind all that was done. */
    private final class Present {
        final int[] registers = new int[4];
        final int[][] kinds = new int[3][3];
        final List<int[]> frames = new ArrayList<>(); // the latest first: FUNCTION, ADDRESS, CELLS
        final List<Integer> finished = new ArrayList<>();

        Present() {
            for (int function = 0; function < functions.length; function++) {
                for (int pad = 0; pad < padsOf(function).length; pad++) {
                    kinds[function][pad] = KIND_LETTERS.indexOf(padsOf(function)[pad].charAt(0));
                }
            }
        }

        void step(int[] step) {
            switch (step[0]) {
                case 'c' -> enter(step[1]);
                case 'g' -> go(step[1]);
                case 's' -> registers[step[1]] = step[2];
                case 'b' -> back();
                case 'r' -> raise(step[1]);
                case 'k' -> kinds[step[1]][step[2]] = step[3];
                default -> throw new IllegalStateException();
            }
        }

        void enter(int function) {
            int[] frame = new int[8];
            frame[0] = function;
            frames.add(0, frame);
            save();
        }

        void go(int by) {
            for (int step = 0; step < by; step++) {
                frames.get(0)[1]++;
                save();
            }
        }

        void save() {
            int[] frame = frames.get(0);
            int address = 0;
            for (String op : opsOf(frame[0])) {
                if (op.charAt(0) == '+') {
                    address += op.charAt(1) - '0';
                } else if (op.charAt(0) == 's' && address == frame[1]) {
                    frame[2 + op.charAt(2) - '0'] = registers[op.charAt(1) - '0'];
                }
            }
        }

        void back() {
            int[] frame = frames.get(0);
            int[] cells = rows(frame[0], frame[1]);
            for (int register = 0; register < 4; register++) {
                if (cells[register] != RowUnwinder.NONE) {
                    registers[register] = frame[2 + cells[register]];
                }
            }
            frames.remove(0);
        }

        /** The FRAME and the PAD that CATCH; null. */
        int[] search(int type) {
            for (int frame = 0; frame < frames.size(); frame++) {
                for (int pad = 0; pad < padsOf(frames.get(frame)[0]).length; pad++) {
                    if (does(frame, pad, type) == 1) {
                        return new int[] {frame, pad};
                    }
                }
            }
            return null;
        }

        int does(int frame, int pad, int type) {
            int[] one = frames.get(frame);
            String text = padsOf(one[0])[pad];
            if (one[1] < text.charAt(1) - '0' || one[1] > text.charAt(2) - '0') {
                return 0;
            }
            return deed(kinds[one[0]][pad], text.charAt(3) - '0', type);
        }

        int raise(int type) {
            int[] where = search(type);
            if (where == null) {
                return RowUnwinder.NONE;
            }
            finished.clear();
            for (int gone = 0; gone <= where[0]; gone++) {
                int function = frames.get(0)[0];
                int pads = gone < where[0] ? padsOf(function).length : where[1];
                for (int pad = 0; pad < pads; pad++) {
                    if (does(0, pad, type) == 2) {
                        finished.add(10 * function + pad);
                    }
                }
                if (gone < where[0]) {
                    back();
                }
            }
            frames.get(0)[1] = padsOf(frames.get(0)[0])[where[1]].charAt(4) - '0';
            return where[0];
        }
    }

    private static String shape() {
        StringBuilder ranges = new StringBuilder("(?:");
        for (int from = 0; from < 10; from++) {
            ranges.append(from == 0 ? "" : "|").append(from).append('[').append(from).append("-9]");
        }
        String program = "(?:\\+[1-9]|s[0-3][0-5]|u[0-3]|m|b){0,8}";
        String pads = "(?:[cafug]" + ranges + ")[0-4][0-9]){0,3}";
        String function = program + ";" + pads;
        return function + "(?:/" + function + "){0,2}";
    }

    static int deed(int kind, int own, int type) {
        boolean catches = switch (kind) {
            case 0, 4 -> type == own;
            case 1 -> true;
            case 2 -> false;
            default -> type >= own;
        };
        return catches ? 1 : kind == 2 || kind == 4 ? 2 : 0;
    }

    /** Whether a TEXT may begin so; a "+" at its end may stand at ADDRESS 9. */
    private static boolean mayBegin(String begun) {
        Matcher matcher = SHAPE.matcher(begun);
        if (!matcher.matches() && !matcher.hitEnd()) {
            return false;
        }
        for (String function : begun.split("/")) {
            String bare = function.split(";", -1)[0].replaceAll("s\\d?\\d?|u\\d?", "");
            int address = 0;
            int depth = 0;
            for (char letter : bare.toCharArray()) {
                address += Character.isDigit(letter) ? letter - '0' : 0;
                depth += letter == 'm' ? 1 : letter == 'b' ? -1 : 0;
                if (address > 9 || depth < 0 || depth > 3) {
                    return false;
                }
            }
        }
        return true;
    }

    private List<String> opsOf(int function) {
        List<String> ops = new ArrayList<>();
        Matcher matcher = Pattern.compile("\\+\\d|s\\d\\d|u\\d|m|b").matcher(functions[function].split(";", -1)[0]);
        while (matcher.find()) {
            ops.add(matcher.group());
        }
        return ops;
    }

    private String[] padsOf(int function) {
        String pads = functions[function].split(";", -1)[1];
        return pads.isEmpty() ? new String[0] : pads.split("(?<=\\G.{5})");
    }

    /** CELLS of REGISTERS 0 to 3, how much is REMEMBERED, the latest ADDRESS of an OP. */
    private int[] rows(int function, int upTo) {
        int[] row = {-1, -1, -1, -1, 0, 0};
        List<int[]> remembered = new ArrayList<>();
        int address = 0;
        for (String op : opsOf(function)) {
            if (op.charAt(0) == '+') {
                address += op.charAt(1) - '0';
            }
            if (address > upTo) {
                break;
            }
            row[5] = op.charAt(0) == '+' ? row[5] : address;
            switch (op.charAt(0)) {
                case 's' -> row[op.charAt(1) - '0'] = op.charAt(2) - '0';
                case 'u' -> row[op.charAt(1) - '0'] = -1;
                case 'm' -> remembered.add(row.clone());
                case 'b' -> System.arraycopy(remembered.remove(remembered.size() - 1), 0, row, 0, 4);
                default -> { }
            }
        }
        row[4] = remembered.size();
        return row;
    }

    private boolean noFunction(int function) {
        return function < 0 || function >= functions.length;
    }

    private boolean noPad(int function, int pad) {
        return noFunction(function) || pad < 0 || pad >= padsOf(function).length;
    }

    private static boolean not(int number, int least, int most) {
        return number < least || number > most;
    }

    private void again() {
        now = new Present();
        for (int[] step : done) {
            now.step(step);
        }
    }

    private void take(int... step) {
        done.add(step);
        undoable = Math.min(30, undoable + 1);
        now.step(step);
    }

    @Override
    public int letter(int code) {
        if (not(code, 1, 126)) {
            return RowUnwinder.OUTSIDE;
        }
        if (page.length() == 100) {
            return RowUnwinder.FULL;
        }
        return page.append((char) code).length();
    }

    @Override
    public int blank() {
        int had = page.length();
        page.setLength(0);
        return had;
    }

    @Override
    public int fault() {
        for (int many = 1; many <= page.length(); many++) {
            if (!mayBegin(page.substring(0, many))) {
                return many - 1;
            }
        }
        return page.length();
    }

    @Override
    public int text() {
        if (fault() < page.length() || !SHAPE.matcher(page).matches()) {
            return RowUnwinder.STATE;
        }
        functions = page.toString().split("/");
        done = new ArrayList<>();
        seen = new ArrayList<>();
        keptDone = null;
        undoable = 0;
        texts++;
        blank();
        again();
        return functions.length;
    }

    @Override
    public int row(int function, int address, int what) {
        if (noFunction(function) || not(address, 0, 9)) {
            return RowUnwinder.UNKNOWN;
        }
        return not(what, 0, 5) ? RowUnwinder.OUTSIDE : rows(function, address)[what];
    }

    @Override
    public int pad(int function, int pad, int what) {
        if (noPad(function, pad)) {
            return RowUnwinder.UNKNOWN;
        }
        if (not(what, 0, 6)) {
            return RowUnwinder.OUTSIDE;
        }
        int own = padsOf(function)[pad].charAt(3) - '0';
        List<Integer> sorts = sorts(function, pad, own);
        if (what == 5) {
            return sorts.stream().mapToInt(kind -> 1 << kind).sum();
        }
        if (what == 6) {
            return ask(sorts, own);
        }
        return what == 0 ? now.kinds[function][pad] : padsOf(function)[pad].charAt(what) - '0';
    }

    private List<Integer> sorts(int function, int pad, int own) {
        List<Integer> sorts = new ArrayList<>(List.of(0, 1, 2, 3, 4));
        for (int[] one : seen) {
            if (one[0] == function && one[1] == pad) {
                sorts.removeIf(kind -> deed(kind, own, one[2]) != one[3]);
            }
        }
        return sorts;
    }

    private static int ask(List<Integer> sorts, int own) {
        if (sorts.isEmpty()) {
            return RowUnwinder.NONE;
        }
        long[] worst = new long[5];
        for (int asked = 0; asked < 5; asked++) {
            int type = asked;
            for (int answered = 0; answered < 3; answered++) {
                int did = answered;
                worst[type] = Math.max(worst[type], sorts.stream().filter(kind -> deed(kind, own, type) == did).count());
            }
        }
        int best = 0;
        for (int type = 1; type < 5; type++) {
            best = worst[type] < worst[best] ? type : best;
        }
        return best;
    }

    @Override
    public int as(int function, int pad, int kind) {
        if (noPad(function, pad)) {
            return RowUnwinder.UNKNOWN;
        }
        if (not(kind, 0, 4)) {
            return RowUnwinder.OUTSIDE;
        }
        String[] is = {"0", "01", "02", "03", "024"};
        return is[now.kinds[function][pad]].indexOf('0' + kind) >= 0 ? pad : RowUnwinder.NONE;
    }

    @Override
    public int frame(int frame, int what) {
        if (not(frame, 0, now.frames.size() - 1)) {
            return RowUnwinder.UNKNOWN;
        }
        if (not(what, 0, 11)) {
            return RowUnwinder.OUTSIDE;
        }
        if (what < 8) {
            return now.frames.get(frame)[what];
        }
        // CALLER by doing it: as many BACKS, then all again.
        for (int gone = 0; gone <= frame; gone++) {
            now.back();
        }
        int value = now.registers[what - 8];
        again();
        return value;
    }

    @Override
    public int register(int register) {
        return not(register, 0, 3) ? RowUnwinder.UNKNOWN : now.registers[register];
    }

    @Override
    public int call(int function) {
        if (noFunction(function)) {
            return RowUnwinder.UNKNOWN;
        }
        if (now.frames.size() == 8) {
            return RowUnwinder.FULL;
        }
        take('c', function);
        return now.frames.size();
    }

    @Override
    public int go(int by) {
        if (not(by, 1, 9)) {
            return RowUnwinder.OUTSIDE;
        }
        if (now.frames.isEmpty() || now.frames.get(0)[1] + by > 9) {
            return RowUnwinder.STATE;
        }
        take('g', by);
        return now.frames.get(0)[1];
    }

    @Override
    public int set(int register, int value) {
        if (not(register, 0, 3)) {
            return RowUnwinder.UNKNOWN;
        }
        if (not(value, 0, 999)) {
            return RowUnwinder.OUTSIDE;
        }
        if (functions.length == 0) {
            return RowUnwinder.STATE;
        }
        int was = now.registers[register];
        take('s', register, value);
        return was;
    }

    @Override
    public int back() {
        if (now.frames.isEmpty()) {
            return RowUnwinder.STATE;
        }
        take('b');
        return now.frames.size();
    }

    @Override
    public int raise(int type) {
        int found = search(type, 0);
        if (found >= 0) {
            take('r', type);
        }
        return found;
    }

    @Override
    public int change(int function, int pad, int kind) {
        if (noPad(function, pad)) {
            return RowUnwinder.UNKNOWN;
        }
        if (not(kind, 0, 4)) {
            return RowUnwinder.OUTSIDE;
        }
        int was = now.kinds[function][pad];
        take('k', function, pad, kind);
        return was;
    }

    @Override
    public int undo() {
        if (undoable == 0) {
            return RowUnwinder.STATE;
        }
        done.remove(done.size() - 1);
        again();
        return --undoable;
    }

    @Override
    public int search(int type, int what) {
        if (not(type, 0, 4) || not(what, 0, 2)) {
            return RowUnwinder.OUTSIDE;
        }
        if (functions.length == 0) {
            return RowUnwinder.STATE;
        }
        int[] where = now.search(type);
        if (where == null) {
            return RowUnwinder.NONE;
        }
        if (what < 2) {
            return where[what];
        }
        now.raise(type);
        int many = now.finished.size();
        again();
        return many;
    }

    @Override
    public int loose() {
        if (functions.length == 0) {
            return RowUnwinder.STATE;
        }
        int bits = 0;
        for (int type = 0; type < 5; type++) {
            bits += now.search(type) == null ? 1 << type : 0;
        }
        return bits;
    }

    @Override
    public int finished(int number) {
        if (number == RowUnwinder.NONE) {
            return now.finished.size();
        }
        return not(number, 0, now.finished.size() - 1) ? RowUnwinder.UNKNOWN : now.finished.get(number);
    }

    @Override
    public int same(int one, int other) {
        if (noFunction(one) || noFunction(other)) {
            return RowUnwinder.UNKNOWN;
        }
        for (int address = 0; address < 10; address++) {
            for (int register = 0; register < 4; register++) {
                if (rows(one, address)[register] != rows(other, address)[register]) {
                    return 0;
                }
            }
        }
        return 1;
    }

    @Override
    public int see(int function, int pad, int type, int did) {
        if (noPad(function, pad)) {
            return RowUnwinder.UNKNOWN;
        }
        if (not(type, 0, 4) || not(did, 0, 2)) {
            return RowUnwinder.OUTSIDE;
        }
        if (seen.size() == 6) {
            return RowUnwinder.FULL;
        }
        seen.add(new int[] {function, pad, type, did});
        return seen.size();
    }

    @Override
    public int forget() {
        int had = seen.size();
        seen = new ArrayList<>();
        return had;
    }

    @Override
    public int drawn(int times, int seed, int what) {
        if (not(times, 1, 99) || seed < 0 || not(what, 0, 2)) {
            return RowUnwinder.OUTSIDE;
        }
        if (functions.length == 0) {
            return RowUnwinder.STATE;
        }
        long[] next = {seed};
        int caught = 0;
        for (int time = 0; time < times; time++) {
            caught += doDrawn(next) ? 1 : 0;
        }
        int frames = now.frames.size();
        again();
        return what == 0 ? caught : what == 1 ? frames : (int) next[0];
    }

    private boolean doDrawn(long[] seed) {
        switch (draw(seed, 4)) {
            case 0 -> {
                int function = draw(seed, functions.length);
                if (now.frames.size() < 8) {
                    now.enter(function);
                }
            }
            case 1 -> {
                if (!now.frames.isEmpty() && now.frames.get(0)[1] < 9) {
                    now.go(1);
                }
            }
            case 2 -> {
                int register = draw(seed, 4);
                now.registers[register] = draw(seed, 1000);
            }
            default -> {
                return now.raise(draw(seed, 5)) >= 0;
            }
        }
        return false;
    }

    private static int draw(long[] seed, int bound) {
        seed[0] = (seed[0] * 1103515245L + 12345L) & 0x7fffffffL;
        return (int) ((seed[0] >>> 16) % bound);
    }

    @Override
    public int image() {
        if (functions.length == 0) {
            return RowUnwinder.STATE;
        }
        keptDone = new ArrayList<>(done);
        keptUndoable = undoable;
        keptSeen = new ArrayList<>(seen);
        return now.frames.size();
    }

    @Override
    public int restore() {
        if (keptDone == null) {
            return RowUnwinder.STATE;
        }
        done = new ArrayList<>(keptDone);
        undoable = keptUndoable;
        seen = new ArrayList<>(keptSeen);
        again();
        return now.frames.size();
    }

    @Override
    public int count(int what) {
        int pads = 0;
        int saving = 0;
        for (int function = 0; function < functions.length; function++) {
            pads += padsOf(function).length;
            for (int address = 0; address < 10; address++) {
                int[] row = rows(function, address);
                saving += row[0] + row[1] + row[2] + row[3] > -4 ? 1 : 0;
            }
        }
        int[] told = {functions.length, pads, now.frames.size(), undoable, saving, seen.size(), page.length(), texts};
        return not(what, 0, 7) ? RowUnwinder.OUTSIDE : told[what];
    }

    @Override
    public long digest() {
        List<Integer> numbers = new ArrayList<>();
        for (int function = 0; function < functions.length; function++) {
            for (int number = 0; number < 60; number++) {
                numbers.add(row(function, number / 6, number % 6));
            }
            for (int number = 0; number < 7 * padsOf(function).length; number++) {
                numbers.add(pad(function, number / 7, number % 7));
            }
        }
        for (int number = 0; number < 12 * now.frames.size(); number++) {
            numbers.add(frame(number / 12, number % 12));
        }
        for (int register : now.registers) {
            numbers.add(register);
        }
        for (int number = 0; number < 15 && functions.length > 0; number++) {
            numbers.add(search(number / 3, number % 3));
        }
        if (functions.length > 0) {
            numbers.add(loose());
        }
        numbers.add(now.finished.size());
        numbers.addAll(now.finished);
        page.chars().forEach(numbers::add);
        for (int what = 0; what < 8; what++) {
            numbers.add(count(what));
        }
        long h = 1399;
        for (int number : numbers) {
            h = 31 * h + number;
        }
        return h;
    }
}
