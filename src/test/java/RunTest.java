/** Promises 12 to 17: start, run, status, result, depth, frame. */
public final class RunTest {
    private static final int[] RETURN = Build.op(Build.RETURN);

    public static void main(String[] args) {
        Due due = new Due();
        startRefuses(due);
        startBeginsAnew(due);
        runCountsSteps(due);
        runRefuses(due);
        arithmetic(due);
        jumps(due);
        callsAndFrames(due);
        parametersAndLocals(due);
        deep(due);
        voidRuns(due);
        fieldsAndSame(due);
        sixOnTheStack(due);
        nullsAreOnTheStack(due);
        due.end();
    }

    private static void startRefuses(Due due) {
        PatchedMachine x = new PatchedMachine();
        Build.method(x, 0, 0, 0, 1, Build.op(Build.NULL, 1), RETURN);
        Build.method(x, 1, 1, 0, 0, Build.op(Build.LOAD, 0), RETURN);
        x.head(2, 0, 0, 0);
        Build.constant(x, 5, 9);
        due.is("start of the draft's method", false, x.start(5));
        Build.commit(x);
        for (int m : new int[] {Integer.MIN_VALUE, -1, 6, 31, Integer.MAX_VALUE}) {
            due.is("start(" + m + ")", false, x.start(m));
        }
        due.is("start with another result", false, x.start(0));
        due.is("start with a parameter", false, x.start(1));
        due.is("start of a head", false, x.start(2));
        due.is("start of nothing", false, x.start(3));
        due.is("status before a run", 0, x.status());
        due.is("start", true, x.start(5));
        due.is("start while a run goes on", false, x.start(5));
        due.is("status of the run", 1, x.status());
        due.is("depth of the run", 1, x.depth());
        due.is("frame of the run", 500, x.frame(0));
        due.is("no result yet", 0, x.result());
    }

    private static void startBeginsAnew(Due due) {
        PatchedMachine x = new PatchedMachine();
        Build.method(x, 0, 0, 0, 0, Build.op(Build.LOAD, 2), Build.op(Build.PUSH, 5), Build.op(Build.STORE, 2),
                RETURN);
        Build.commit(x);
        for (int i = 0; i < 2; i++) {
            Build.start(x, 0);
            due.is("steps", 4, x.run(300));
            due.is("locals begin as 0", 0, x.result());
        }
        Build.constant(x, 1, 6);
        Build.commit(x);
        Build.start(x, 1);
        x.run(300);
        due.is("result", 6, x.result());
        Build.start(x, 1);
        due.is("no result of the latest run", 0, x.result());
        due.is("it goes on", 1, x.status());
    }

    private static void runCountsSteps(Due due) {
        PatchedMachine x = new PatchedMachine();
        Build.constant(x, 0, 7);
        Build.method(x, 1, 0, 0, 0, Build.op(Build.JUMP, 0));
        Build.commit(x);
        Build.start(x, 0);
        due.is("run(1)", 1, x.run(1));
        due.is("frame behind a step", 1, x.frame(0));
        due.is("the step that ends it", 1, x.run(300));
        due.is("status", 2, x.status());
        due.is("result", 7, x.result());
        due.is("depth", 0, x.depth());
        due.is("frame(0)", -1, x.frame(0));
        due.is("run behind the end", -1, x.run(1));
        Build.start(x, 1);
        due.is("run(300)", 300, x.run(300));
        due.is("still going on", 1, x.status());
    }

    private static void runRefuses(Due due) {
        PatchedMachine x = new PatchedMachine();
        Build.method(x, 1, 0, 0, 0, Build.op(Build.PUSH, 1), Build.op(Build.OUT), Build.op(Build.JUMP, 0));
        Build.commit(x);
        due.is("run without a run", -1, x.run(1));
        Build.start(x, 1);
        for (int n : new int[] {Integer.MIN_VALUE, -1, 0, 301, Integer.MAX_VALUE}) {
            due.is("run(" + n + ")", -1, x.run(n));
        }
        due.is("no step was made", 100, x.frame(0));
        due.is("nothing was put out", 0, x.outputs());
    }

    private static void arithmetic(Due due) {
        int least = Integer.MIN_VALUE;
        int most = Integer.MAX_VALUE;
        int[][] pairs = {{2, 3}, {3, 2}, {3, 3}, {-1, 1}, {most, 1}, {least, 1}, {least, -1}, {1, least},
            {most, most}, {least, most}, {46341, 46341}, {0, least}};
        for (int[] pair : pairs) {
            int a = pair[0];
            int b = pair[1];
            due.is("ADD", a + b, calculated(Build.ADD, a, b));
            due.is("SUB", a - b, calculated(Build.SUB, a, b));
            due.is("MUL", a * b, calculated(Build.MUL, a, b));
            due.is("LESS", a < b ? 1 : 0, calculated(Build.LESS, a, b));
        }
    }

    private static int calculated(int op, int a, int b) {
        PatchedMachine x = new PatchedMachine();
        Build.method(x, 0, 0, 0, 0, Build.op(Build.PUSH, a), Build.op(Build.PUSH, b), Build.op(op), RETURN);
        Build.commit(x);
        Build.start(x, 0);
        x.run(4);
        return x.result();
    }

    private static void jumps(Due due) {
        for (int number : new int[] {0, 1, -1}) {
            PatchedMachine x = new PatchedMachine();
            Build.method(x, 2, 0, 0, 0, Build.op(Build.PUSH, number), Build.op(Build.ZERO, 5),
                    Build.op(Build.PUSH, 10), RETURN, Build.op(Build.JUMP, 2),
                    Build.op(Build.JUMP, 7), Build.op(Build.JUMP, 0), Build.op(Build.PUSH, 20), RETURN);
            Build.commit(x);
            Build.start(x, 2);
            x.run(2);
            due.is("place behind ZERO", number == 0 ? 205 : 202, x.frame(0));
            due.is("steps left", number == 0 ? 3 : 2, x.run(300));
            due.is("result", number == 0 ? 20 : 10, x.result());
        }
    }

    private static void callsAndFrames(Due due) {
        PatchedMachine x = new PatchedMachine();
        Build.method(x, 0, 0, 0, 0, Build.op(Build.PUSH, 100), Build.op(Build.CALL, 3), Build.op(Build.SUB), RETURN);
        Build.method(x, 3, 0, 0, 0, Build.op(Build.CALL, 5), RETURN);
        Build.constant(x, 5, 42);
        Build.commit(x);
        Build.start(x, 0);
        x.run(3);
        due.is("depth", 3, x.depth());
        due.is("the top", 500, x.frame(0));
        due.is("below it, behind its CALL", 301, x.frame(1));
        due.is("the first", 2, x.frame(2));
        due.is("no more", -1, x.frame(3));
        due.is("none above", -1, x.frame(-1));
        due.is("least", -1, x.frame(Integer.MIN_VALUE));
        due.is("most", -1, x.frame(Integer.MAX_VALUE));
        x.run(2);
        due.is("depth behind RETURN", 2, x.depth());
        due.is("the top behind RETURN", 301, x.frame(0));
        due.is("steps to the end", 3, x.run(300));
        due.is("the result was put on the stack", 58, x.result());
    }

    private static void parametersAndLocals(Due due) {
        PatchedMachine x = new PatchedMachine();
        Build.method(x, 1, 3, 0, 0, Build.op(Build.LOAD, 0), Build.op(Build.OUT), Build.op(Build.LOAD, 1),
                Build.op(Build.OUT), Build.op(Build.LOAD, 2), Build.op(Build.OUT), Build.op(Build.LOAD, 3),
                Build.op(Build.PUSH, 9), Build.op(Build.STORE, 3), RETURN);
        Build.method(x, 0, 0, 0, 0, Build.op(Build.PUSH, 8), Build.op(Build.STORE, 3), Build.op(Build.PUSH, 4),
                Build.op(Build.PUSH, 5), Build.op(Build.PUSH, 6), Build.op(Build.CALL, 1), Build.op(Build.OUT),
                Build.op(Build.PUSH, 1), Build.op(Build.PUSH, 2), Build.op(Build.PUSH, 3), Build.op(Build.CALL, 1),
                Build.op(Build.LOAD, 3), Build.op(Build.ADD), RETURN);
        Build.commit(x);
        Build.start(x, 0);
        x.run(300);
        int[] want = {3, 2, 1, 0, 6, 5, 4};
        for (int back = 0; back < want.length; back++) {
            due.is("parameter put out, " + back + " back", want[back], x.output(back));
        }
        due.is("a frame's other locals are 0, the caller's are its own", 8, x.result());
    }

    private static void deep(Due due) {
        PatchedMachine x = new PatchedMachine();
        Build.method(x, 4, 0, 0, 0, Build.op(Build.CALL, 4), RETURN);
        Build.commit(x);
        Build.start(x, 4);
        due.is("seven calls", 7, x.run(7));
        due.is("eight frames", 8, x.depth());
        due.is("goes on", 1, x.status());
        due.is("the lowest frame", 401, x.frame(7));
        due.is("no ninth", -1, x.frame(8));
        due.is("the call that ends it", 1, x.run(300));
        due.is("DEEP", 5, x.status());
        due.is("no frame", 0, x.depth());
        due.is("no top", -1, x.frame(0));
        due.is("no result", 0, x.result());
        due.is("another run may start", true, x.start(4));
    }

    private static void voidRuns(Due due) {
        PatchedMachine x = new PatchedMachine();
        Build.fields(x, 2, new int[] {1, 0, -1});
        int locals = Build.locals(0, 2);
        Build.method(x, 0, 0, locals, 0, Build.op(Build.LOAD, 1), Build.op(Build.GET, 2, 1), RETURN);
        Build.method(x, 1, 0, locals, 0, Build.op(Build.LOAD, 1), Build.op(Build.PUSH, 5),
                Build.op(Build.PUT, 2, 1), Build.op(Build.PUSH, 1), RETURN);
        Build.method(x, 2, 0, 0, 0, Build.op(Build.CALL, 0), RETURN);
        Build.constant(x, 3, 11);
        Build.commit(x);
        int[] steps = {2, 3, 3};
        for (int m = 0; m < 3; m++) {
            Build.start(x, 3);
            x.run(2);
            Build.start(x, m);
            due.is("steps of method " + m, steps[m], x.run(300));
            due.is("VOID", 3, x.status());
            due.is("no result", 0, x.result());
            due.is("no frame", 0, x.depth());
        }
    }

    private static void fieldsAndSame(Due due) {
        PatchedMachine x = new PatchedMachine();
        Build.fields(x, 1, new int[] {8, 0, -1}, new int[] {2, 1, -1}, new int[] {0, 0, -1});
        Build.method(x, 0, 0, Build.locals(1, 1), 0, Build.op(Build.NEW, 1), Build.op(Build.STORE, 0),
                Build.op(Build.LOAD, 0), Build.op(Build.PUSH, 31), Build.op(Build.PUT, 1, 0),
                Build.op(Build.LOAD, 0), Build.op(Build.LOAD, 0), Build.op(Build.PUT, 1, 2),
                Build.op(Build.LOAD, 0), Build.op(Build.GET, 1, 8), Build.op(Build.OUT),
                Build.op(Build.LOAD, 0), Build.op(Build.CALL, 1), RETURN);
        Build.method(x, 1, 1, Build.locals(1, 1), 0, Build.op(Build.LOAD, 0), Build.op(Build.LOAD, 1),
                Build.op(Build.SAME, 1), Build.op(Build.OUT), Build.op(Build.LOAD, 1), Build.op(Build.NULL, 1),
                Build.op(Build.SAME, 1), Build.op(Build.OUT), Build.op(Build.LOAD, 0), Build.op(Build.CALL, 2),
                Build.op(Build.OUT), Build.op(Build.LOAD, 0), Build.op(Build.GET, 1, 0), RETURN);
        Build.method(x, 2, 1, Build.locals(1), 0, Build.op(Build.LOAD, 0), Build.op(Build.GET, 1, 2),
                Build.op(Build.LOAD, 0), Build.op(Build.SAME, 1), Build.op(Build.OUT),
                Build.op(Build.NEW, 1), Build.op(Build.NEW, 1), Build.op(Build.SAME, 1), RETURN);
        Build.commit(x);
        Build.start(x, 0);
        x.run(300);
        due.is("a field as it was put", 31, x.result());
        due.is("two objects", 0, x.output(0));
        due.is("an object from a field", 1, x.output(1));
        due.is("null and null", 1, x.output(2));
        due.is("an object and null", 0, x.output(3));
        due.is("a field not put", 0, x.output(4));
        due.is("objects", 3, x.objects());
    }

    /** A run that ends as VOID with a filled stack leaves nothing of it to the next. */
    private static void sixOnTheStack(Due due) {
        PatchedMachine x = new PatchedMachine();
        Build.fields(x, 1, new int[] {0, 0, -1});
        int[] add = Build.op(Build.ADD);
        Build.method(x, 0, 0, 0, 0, Build.op(Build.PUSH, 1), Build.op(Build.PUSH, 20), Build.op(Build.PUSH, 300),
                Build.op(Build.PUSH, 4000), Build.op(Build.PUSH, 50000), Build.op(Build.PUSH, 600000),
                add, add, add, add, add, RETURN);
        Build.method(x, 1, 0, 0, 0, Build.op(Build.PUSH, 1), Build.op(Build.PUSH, 2), Build.op(Build.PUSH, 3),
                Build.op(Build.PUSH, 4), Build.op(Build.PUSH, 5), Build.op(Build.NULL, 1), Build.op(Build.GET, 1, 0),
                add, add, add, add, add, RETURN);
        Build.commit(x);
        Build.start(x, 1);
        due.is("to VOID", 7, x.run(300));
        Build.start(x, 0);
        due.is("all of it", 12, x.run(300));
        due.is("all six", 654321, x.result());
    }

    private static void nullsAreOnTheStack(Due due) {
        PatchedMachine x = new PatchedMachine();
        Build.method(x, 0, 0, 0, 0, Build.op(Build.PUSH, 5), Build.op(Build.NULL, 2), Build.op(Build.NULL, 2),
                Build.op(Build.SAME, 2), Build.op(Build.ADD), RETURN);
        Build.commit(x);
        Build.start(x, 0);
        x.run(300);
        due.is("two nulls above an int", 6, x.result());
    }
}
