/** Names for the instructions, and short ways to write drafts. */
final class Build {
    static final int PUSH = 0;
    static final int NULL = 1;
    static final int LOAD = 2;
    static final int STORE = 3;
    static final int ADD = 4;
    static final int SUB = 5;
    static final int MUL = 6;
    static final int LESS = 7;
    static final int JUMP = 8;
    static final int ZERO = 9;
    static final int NEW = 10;
    static final int GET = 11;
    static final int PUT = 12;
    static final int CALL = 13;
    static final int RETURN = 14;
    static final int SAME = 15;
    static final int OUT = 16;

    private Build() {
    }

    static int[] op(int op, int... arguments) {
        return new int[] {op, arguments.length > 0 ? arguments[0] : 0, arguments.length > 1 ? arguments[1] : 0};
    }

    /** The locals' types as head() takes them. */
    static int locals(int... types) {
        int packed = 0;
        for (int i = 0; i < types.length; i++) {
            packed |= types[i] << 2 * i;
        }
        return packed;
    }

    /** Gives method m a head and a code; every call must be taken. */
    static void method(PatchedMachine x, int m, int parameters, int locals, int result, int[]... code) {
        must("head of " + m, x.head(m, parameters, locals, result));
        for (int i = 0; i < code.length; i++) {
            must("place " + i + " of " + m, x.code(m, code[i][0], code[i][1], code[i][2]));
        }
    }

    /** A method without parameters that returns the number. */
    static void constant(PatchedMachine x, int m, int number) {
        method(x, m, 0, 0, 0, op(PUSH, number), op(RETURN));
    }

    /** Gives class c fields {name, type, from}; every call must be taken. */
    static void fields(PatchedMachine x, int c, int[]... fields) {
        must("layout of " + c, x.layout(c));
        for (int[] field : fields) {
            must("field " + field[0] + " of " + c, x.field(c, field[0], field[1], field[2]));
        }
    }

    static void commit(PatchedMachine x) {
        int answer = x.commit();
        if (answer != 0) {
            throw new IllegalStateException("commit answered " + answer);
        }
    }

    static void start(PatchedMachine x, int m) {
        must("start of " + m, x.start(m));
    }

    private static void must(String what, boolean taken) {
        if (!taken) {
            throw new IllegalStateException(what + " was refused");
        }
    }
}
