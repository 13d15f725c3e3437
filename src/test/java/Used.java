/** An object and how often it was called: what it answers behind its 512th call is free, so no test may ask it then. */
final class Used implements Face {
    static final int MOST_CALLS = 512;

    private final RowUnwinder object = new RowUnwinder();
    private int calls = 0;

    int calls() {
        return calls;
    }

    private RowUnwinder once() {
        calls++;
        if (calls == MOST_CALLS + 1) {
            Due.is("how often a test calls one object", calls, MOST_CALLS);
        }
        return object;
    }

    @Override
    public int letter(int code) {
        return once().letter(code);
    }

    @Override
    public int blank() {
        return once().blank();
    }

    @Override
    public int fault() {
        return once().fault();
    }

    @Override
    public int text() {
        return once().text();
    }

    @Override
    public int row(int function, int address, int what) {
        return once().row(function, address, what);
    }

    @Override
    public int pad(int function, int pad, int what) {
        return once().pad(function, pad, what);
    }

    @Override
    public int as(int function, int pad, int kind) {
        return once().as(function, pad, kind);
    }

    @Override
    public int frame(int frame, int what) {
        return once().frame(frame, what);
    }

    @Override
    public int register(int register) {
        return once().register(register);
    }

    @Override
    public int call(int function) {
        return once().call(function);
    }

    @Override
    public int go(int by) {
        return once().go(by);
    }

    @Override
    public int set(int register, int value) {
        return once().set(register, value);
    }

    @Override
    public int back() {
        return once().back();
    }

    @Override
    public int raise(int type) {
        return once().raise(type);
    }

    @Override
    public int change(int function, int pad, int kind) {
        return once().change(function, pad, kind);
    }

    @Override
    public int undo() {
        return once().undo();
    }

    @Override
    public int search(int type, int what) {
        return once().search(type, what);
    }

    @Override
    public int loose() {
        return once().loose();
    }

    @Override
    public int finished(int number) {
        return once().finished(number);
    }

    @Override
    public int same(int one, int other) {
        return once().same(one, other);
    }

    @Override
    public int see(int function, int pad, int type, int did) {
        return once().see(function, pad, type, did);
    }

    @Override
    public int forget() {
        return once().forget();
    }

    @Override
    public int drawn(int times, int seed, int what) {
        return once().drawn(times, seed, what);
    }

    @Override
    public int image() {
        return once().image();
    }

    @Override
    public int restore() {
        return once().restore();
    }

    @Override
    public int count(int what) {
        return once().count(what);
    }

    @Override
    public long digest() {
        return once().digest();
    }
}
