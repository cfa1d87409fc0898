import java.util.ArrayList;
import java.util.List;

/**
 * A call that is refused changes nothing: each such call is made on a machine in some state, and then the machine
 * goes on, in several ways that show what can't be asked for, as one on which the call was not made.
 */
public final class RefusedTest {
    private static final int LEAST = Integer.MIN_VALUE;
    private static final int MOST = Integer.MAX_VALUE;
    private static final int[] RETURN = Build.op(Build.RETURN);
    private static final int[] LOAD = Build.op(Build.LOAD, 0);
    private static final int ASKED = 12345;

    private interface Scene {
        PatchedMachine make();
    }

    private interface Call {
        int on(PatchedMachine x);
    }

    private interface Way {
        void go(Told told);
    }

    /** A call with the answer that refuses it, or ASKED if it is a question. */
    private record Refusal(String name, int want, Call call) { }

    private static final Way[] WAYS = {
        Told::askAll,
        RefusedTest::commitAndRun,
        RefusedTest::fillAndCommit,
        RefusedTest::dropAndRun,
        RefusedTest::stepAndCommit,
    };

    private final Due due = new Due();
    private final List<Refusal> refusals = new ArrayList<>();

    public static void main(String[] args) {
        RefusedTest test = new RefusedTest();
        test.play("a new object", PatchedMachine::new, test::inANewObject);
        test.play("a draft", RefusedTest::drafted, test::inADraft);
        test.play("three patches wait", RefusedTest::waiting, test::whileThreeWait);
        test.play("a run goes on", RefusedTest::running, test::whileARunGoesOn);
        test.play("a run has returned", RefusedTest::returned, test::behindARun);
        test.play("a run has met null", RefusedTest::voided, test::behindANull);
        test.due.end();
    }

    private void play(String scene, Scene make, Runnable own) {
        refusals.clear();
        everywhere();
        questions();
        own.run();
        for (Way way : WAYS) {
            Told without = new Told(make.make());
            way.go(without);
            for (Refusal refusal : refusals) {
                PatchedMachine x = make.make();
                String where = scene + ", " + refusal.name();
                int answer = refusal.call().on(x);
                due.is(where, refusal.want() == ASKED ? answer : refusal.want(), answer);
                Told with = new Told(x);
                way.go(with);
                compare(where, without.lines(), with.lines());
            }
        }
    }

    private void compare(String where, List<String> without, List<String> with) {
        due.is(where + ", then as many calls", without.size(), with.size());
        for (int i = 0; i < Math.min(without.size(), with.size()); i++) {
            if (!without.get(i).equals(with.get(i))) {
                due.is(where + ", then " + with.get(i) + ", without it " + without.get(i), true, false);
                return;
            }
        }
    }

    private static void commitAndRun(Told told) {
        told.commit();
        told.askAll();
        told.run(300);
        told.askInShort();
        told.runAll();
        told.commit();
    }

    private static void fillAndCommit(Told told) {
        told.fillClasses();
        told.fillMethods();
        told.commit();
        told.run(300);
        told.commit();
        told.runAll();
    }

    private static void dropAndRun(Told told) {
        told.drop();
        told.commit();
        told.fillClasses();
        told.fillMethods();
        told.run(300);
        told.runAll();
    }

    private static void stepAndCommit(Told told) {
        for (int i = 0; i < 12; i++) {
            told.run(1);
            told.askInShort();
        }
        told.run(300);
        told.commit();
        told.drop();
        told.runAll();
    }

    private void no(String name, Call call) {
        refusals.add(new Refusal(name, 0, call));
    }

    private void minus(String name, Call call) {
        refusals.add(new Refusal(name, -1, call));
    }

    private void asked(String name, Call call) {
        refusals.add(new Refusal(name, ASKED, call));
    }

    private static int number(boolean answer) {
        return answer ? 1 : 0;
    }

    private void layout(int c) {
        no("layout(" + c + ")", x -> number(x.layout(c)));
    }

    private void field(int c, int name, int type, int from) {
        no("field(" + c + ", " + name + ", " + type + ", " + from + ")", x -> number(x.field(c, name, type, from)));
    }

    private void head(int m, int parameters, int locals, int result) {
        no("head(" + m + ", " + parameters + ", " + locals + ", " + result + ")",
                x -> number(x.head(m, parameters, locals, result)));
    }

    private void code(int m, int op, int xx, int y) {
        no("code(" + m + ", " + op + ", " + xx + ", " + y + ")", x -> number(x.code(m, op, xx, y)));
    }

    private void start(int m) {
        no("start(" + m + ")", x -> number(x.start(m)));
    }

    private void run(int n) {
        minus("run(" + n + ")", x -> x.run(n));
    }

    /** What is refused in every state. */
    private void everywhere() {
        for (int c : new int[] {LEAST, -1, 0, 4, MOST}) {
            layout(c);
            field(c, 8, 0, -1);
        }
        for (int c = 1; c <= 3; c++) {
            for (int wrong : new int[] {LEAST, -1, 10, MOST}) {
                field(c, wrong, 0, -1);
            }
            for (int wrong : new int[] {LEAST, -1, 4, MOST}) {
                field(c, 8, wrong, -1);
            }
            for (int wrong : new int[] {LEAST, -2, 10, MOST}) {
                field(c, 8, 0, wrong);
            }
        }
        for (int m : new int[] {LEAST, -1, 6, MOST}) {
            head(m, 0, 0, 0);
            code(m, Build.JUMP, 0, 0);
            start(m);
        }
        for (int m = 0; m <= 5; m++) {
            headsAndCodes(m);
        }
        for (int n : new int[] {LEAST, -1, 0, 301, MOST}) {
            run(n);
        }
    }

    private void headsAndCodes(int m) {
        for (int wrong : new int[] {LEAST, -1, 4, MOST}) {
            head(m, wrong, 0, 0);
            head(m, 0, 0, wrong);
        }
        for (int wrong : new int[] {LEAST, -1, 256, MOST}) {
            head(m, 0, wrong, 0);
        }
        for (int op : new int[] {LEAST, -1, 17, MOST}) {
            code(m, op, 0, 0);
        }
        int[] below = {0, 0, -1, -1, -1, -1, -1, -1, -1, -1, 0, 0, 0, -1, -1, 0, -1};
        int[] above = {0, 4, 4, 4, 1, 1, 1, 1, 14, 14, 4, 4, 4, 6, 1, 4, 1};
        for (int op = 0; op <= 16; op++) {
            if (op != Build.PUSH) {
                code(m, op, below[op], 0);
                code(m, op, above[op], 0);
            }
            code(m, op, below[op] + 1, -1);
            code(m, op, below[op] + 1, op == Build.GET || op == Build.PUT ? 10 : 1);
        }
    }

    /** Questions, also those beyond their ranges, change nothing either. */
    private void questions() {
        asked("waiting()", PatchedMachine::waiting);
        asked("restricted()", PatchedMachine::restricted);
        asked("applied()", PatchedMachine::applied);
        asked("moved()", PatchedMachine::moved);
        asked("status()", PatchedMachine::status);
        asked("result()", PatchedMachine::result);
        asked("depth()", PatchedMachine::depth);
        asked("objects()", PatchedMachine::objects);
        asked("outputs()", PatchedMachine::outputs);
        for (int i : new int[] {LEAST, -2, -1, 0, 1, 2, 3, 4, 7, 8, 15, 16, MOST}) {
            asked("frame(" + i + ")", x -> x.frame(i));
            asked("output(" + i + ")", x -> x.output(i));
            asked("shape(1, " + i + ")", x -> x.shape(1, i));
            asked("shape(" + i + ", -1)", x -> x.shape(i, -1));
        }
    }

    private void inANewObject() {
        nothingIsTouched();
        nothingIsRun();
        for (int m = 0; m <= 5; m++) {
            start(m);
        }
    }

    private void nothingIsTouched() {
        no("drop()", x -> number(x.drop()));
        minus("commit()", PatchedMachine::commit);
        for (int c = 1; c <= 3; c++) {
            field(c, 8, 0, -1);
        }
        for (int m = 0; m <= 5; m++) {
            code(m, Build.PUSH, 1, 0);
            code(m, Build.RETURN, 0, 0);
        }
    }

    private void nothingIsRun() {
        run(1);
        run(300);
    }

    /**
     * The newest program has class 1 with an int 1 and an object 2, class 2 with ints 0 to 3, method 0, and method 1
     * with a parameter. The draft has one field of class 1, four of class 2, all fourteen places of method 0, and a
     * bad place 100.
     */
    private static PatchedMachine drafted() {
        PatchedMachine x = new PatchedMachine();
        Build.fields(x, 1, new int[] {1, 0, -1}, new int[] {2, 2, -1});
        Build.fields(x, 2, new int[] {0, 0, -1}, new int[] {1, 0, -1}, new int[] {2, 0, -1}, new int[] {3, 0, -1});
        Build.constant(x, 0, 7);
        Build.method(x, 1, 1, 0, 0, LOAD, RETURN);
        Build.method(x, 3, 0, 0, 2, Build.op(Build.NEW, 2), RETURN);
        Build.commit(x);
        Build.fields(x, 1, new int[] {5, 0, 1});
        Build.fields(x, 2, new int[] {6, 0, 0}, new int[] {7, 0, 0}, new int[] {8, 0, -1}, new int[] {3, 3, -1});
        x.head(0, 0, 0, 0);
        for (int place = 0; place < 12; place++) {
            x.code(0, place % 2 == 0 ? Build.PUSH : Build.OUT, place % 2 == 0 ? place : 0, 0);
        }
        x.code(0, Build.PUSH, 8, 0);
        x.code(0, Build.RETURN, 0, 0);
        x.head(1, 2, 6, 0);
        x.code(1, Build.PUSH, 3, 0);
        return x;
    }

    private void inADraft() {
        nothingIsRun();
        field(3, 0, 0, -1);
        for (int name = 0; name <= 9; name++) {
            field(2, name, 0, -1);
            field(2, name, 0, 0);
        }
        field(1, 5, 0, -1);
        field(1, 5, 2, -1);
        field(1, 6, 0, 5);
        field(1, 6, 0, 2);
        field(1, 6, 2, 1);
        field(1, 6, 0, 0);
        code(0, Build.JUMP, 0, 0);
        code(0, Build.PUSH, 0, 0);
        for (int m = 2; m <= 5; m++) {
            code(m, Build.PUSH, 0, 0);
            start(m);
        }
        start(1);
        refusals.add(new Refusal("commit()", 101, PatchedMachine::commit));
    }

    /**
     * Method 0 has called 1, which has called 2: all three hold objects, and have put out a number each. Method 4
     * could be run but for the run that goes on.
     */
    private static PatchedMachine running() {
        PatchedMachine x = new PatchedMachine();
        Build.fields(x, 1, new int[] {1, 0, -1}, new int[] {2, 1, -1});
        int[] out = Build.op(Build.OUT);
        Build.method(x, 0, 0, Build.locals(1, 2), 0, Build.op(Build.PUSH, 10), out, Build.op(Build.NEW, 1),
                Build.op(Build.STORE, 0), LOAD, Build.op(Build.PUSH, 55), Build.op(Build.PUT, 1, 1),
                LOAD, Build.op(Build.CALL, 1), LOAD, Build.op(Build.GET, 1, 1), Build.op(Build.ADD), RETURN);
        Build.method(x, 1, 1, Build.locals(1, 1), 0, Build.op(Build.PUSH, 11), out, Build.op(Build.PUSH, 4),
                Build.op(Build.NEW, 1), Build.op(Build.STORE, 1), Build.op(Build.LOAD, 1), LOAD,
                Build.op(Build.PUT, 1, 2), Build.op(Build.LOAD, 1), Build.op(Build.CALL, 2), Build.op(Build.ADD),
                RETURN);
        Build.method(x, 2, 1, Build.locals(1, 0, 3), 0, Build.op(Build.PUSH, 12), out, Build.op(Build.NEW, 3),
                Build.op(Build.STORE, 2), LOAD, Build.op(Build.GET, 1, 2), Build.op(Build.GET, 1, 1), RETURN);
        Build.constant(x, 4, 44);
        Build.commit(x);
        Build.start(x, 0);
        x.run(9 + 10 + 5);
        return x;
    }

    private void whileARunGoesOn() {
        nothingIsTouched();
        for (int m = 0; m <= 5; m++) {
            start(m);
        }
    }

    private static PatchedMachine waiting() {
        PatchedMachine x = running();
        Build.fields(x, 1, new int[] {2, 1, 2}, new int[] {1, 0, 1}, new int[] {7, 0, 1});
        Build.commit(x);
        Build.constant(x, 4, 45);
        Build.commit(x);
        Build.constant(x, 2, 46);
        Build.method(x, 2, 1, Build.locals(1), 0, LOAD, Build.op(Build.GET, 1, 7), RETURN);
        Build.commit(x);
        Build.fields(x, 1, new int[] {2, 1, -1}, new int[] {1, 0, 7}, new int[] {7, 0, -1});
        Build.constant(x, 5, 50);
        return x;
    }

    private void whileThreeWait() {
        minus("commit()", PatchedMachine::commit);
        for (int m = 0; m <= 5; m++) {
            start(m);
        }
        for (int m = 0; m <= 4; m++) {
            code(m, Build.PUSH, 1, 0);
        }
        field(1, 2, 1, 2);
        field(1, 8, 1, 1);
        field(1, 8, 0, 2);
        field(1, 8, 0, 0);
        field(2, 0, 0, -1);
        field(3, 0, 0, -1);
    }

    private static PatchedMachine returned() {
        PatchedMachine x = running();
        x.run(300);
        return x;
    }

    private void behindARun() {
        nothingIsTouched();
        nothingIsRun();
        for (int m = 1; m <= 3; m++) {
            start(m);
        }
        start(5);
    }

    /** The draft is not sound: it takes away a field that method 1 uses. */
    private static PatchedMachine voided() {
        PatchedMachine x = running();
        Build.method(x, 2, 1, Build.locals(1, 1), 0, Build.op(Build.LOAD, 1), Build.op(Build.GET, 1, 1), RETURN);
        Build.commit(x);
        x.run(300);
        Build.method(x, 4, 0, 1, 0, Build.op(Build.NEW, 1), Build.op(Build.GET, 1, 2), Build.op(Build.GET, 1, 1),
                RETURN);
        Build.commit(x);
        Build.start(x, 4);
        x.run(300);
        Build.fields(x, 1, new int[] {1, 0, 1});
        Build.constant(x, 4, 3);
        return x;
    }

    private void behindANull() {
        nothingIsRun();
        refusals.add(new Refusal("commit()", 108, PatchedMachine::commit));
        for (int m = 0; m <= 3; m++) {
            code(m, Build.PUSH, 1, 0);
        }
        code(5, Build.PUSH, 1, 0);
        for (int m = 1; m <= 3; m++) {
            start(m);
        }
        start(5);
        field(1, 1, 0, -1);
        field(1, 8, 0, 2);
        field(1, 8, 1, 1);
        field(2, 8, 0, -1);
        field(3, 8, 0, -1);
    }
}
