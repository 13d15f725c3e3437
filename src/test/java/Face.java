/** The methods of the document's face, so that a test can ask the program and the Model the same. */
interface Face {
    int letter(int code);

    int blank();

    int fault();

    int text();

    int row(int function, int address, int what);

    int pad(int function, int pad, int what);

    int as(int function, int pad, int kind);

    int frame(int frame, int what);

    int register(int register);

    int call(int function);

    int go(int by);

    int set(int register, int value);

    int back();

    int raise(int type);

    int change(int function, int pad, int kind);

    int undo();

    int search(int type, int what);

    int loose();

    int finished(int number);

    int same(int one, int other);

    int see(int function, int pad, int type, int did);

    int forget();

    int drawn(int times, int seed, int what);

    int image();

    int restore();

    int count(int what);

    long digest();
}
