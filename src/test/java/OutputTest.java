/** Promises 19 and 20: output and outputs. */
public final class OutputTest {
    public static void main(String[] args) {
        Due due = new Due();
        PatchedMachine x = new PatchedMachine();
        countUpTo(x, 5);
        Build.start(x, 0);
        x.run(5);
        due.is("outputs before an OUT", 0, x.outputs());
        due.is("output before an OUT", 0, x.output(0));
        x.run(1);
        due.is("outputs behind an OUT", 1, x.outputs());
        due.is("output behind an OUT", 1, x.output(0));
        due.is("none before the first", 0, x.output(1));
        x.run(300);
        due.is("outputs of a run", 5, x.outputs());
        for (int back = 0; back < 16; back++) {
            due.is("output(" + back + ") of 5", back < 5 ? 5 - back : 0, x.output(back));
        }
        secondRun(due, x);
        edges(due);
        due.end();
    }

    /** The first OUT is step 6, and each one more is 11 steps later. */
    private static void countUpTo(PatchedMachine x, int last) {
        Build.method(x, 0, 0, 0, 0,
                Build.op(Build.LOAD, 0), Build.op(Build.PUSH, 1), Build.op(Build.ADD), Build.op(Build.STORE, 0),
                Build.op(Build.LOAD, 0), Build.op(Build.OUT),
                Build.op(Build.LOAD, 0), Build.op(Build.PUSH, last), Build.op(Build.SUB), Build.op(Build.ZERO, 11),
                Build.op(Build.JUMP, 0),
                Build.op(Build.LOAD, 0), Build.op(Build.RETURN));
        Build.commit(x);
    }

    private static void secondRun(Due due, PatchedMachine x) {
        countUpTo(x, 20);
        Build.start(x, 0);
        x.run(28);
        due.is("outputs of both runs", 8, x.outputs());
        int[] want = {3, 2, 1, 5, 4, 3, 2, 1, 0};
        for (int back = 0; back < want.length; back++) {
            due.is("output(" + back + ") of both runs", want[back], x.output(back));
        }
        x.run(300);
        due.is("outputs at the end", 25, x.outputs());
        for (int back = 0; back < 16; back++) {
            due.is("output(" + back + ") of 25", 20 - back, x.output(back));
        }
        for (int back : new int[] {Integer.MIN_VALUE, -1, 16, 17, 24, Integer.MAX_VALUE}) {
            due.is("output(" + back + ")", 0, x.output(back));
        }
    }

    private static void edges(Due due) {
        PatchedMachine x = new PatchedMachine();
        Build.method(x, 0, 0, 0, 0, Build.op(Build.PUSH, Integer.MIN_VALUE), Build.op(Build.OUT),
                Build.op(Build.PUSH, Integer.MAX_VALUE), Build.op(Build.OUT),
                Build.op(Build.PUSH, 0), Build.op(Build.RETURN));
        Build.commit(x);
        Build.start(x, 0);
        x.run(300);
        due.is("the most", Integer.MAX_VALUE, x.output(0));
        due.is("the least", Integer.MIN_VALUE, x.output(1));
    }
}
