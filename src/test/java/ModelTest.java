import java.util.ArrayList;
import java.util.List;

/** All promises: long runs of calls, made by a counter that is always the same, against the model. */
public final class ModelTest {
    private static final int RUNS = 1500;
    private static final int CALLS = 512;
    private static final int EXPRESSION_DEPTH = 3;

    private final Due due;
    private final int number;
    private final PatchedMachine x = new PatchedMachine();
    private final Model model = new Model();
    private final Seen seen;
    private long state;
    private int calls = 0;
    /** A holder has objects only from calls, so that a patch of their class need not wait for it. */
    private boolean isHolder = false;

    /** What the runs have met, so that they can't come to test nothing. */
    private static final class Seen {
        final int[] statuses = new int[6];
        final int[] waiting = new int[4];
        int moved = 0;
        int appliedWhileRunning = 0;
        int bad = 0;
        int restrictedNotTouched = 0;
    }

    private ModelTest(Due due, int number, Seen seen) {
        this.due = due;
        this.number = number;
        this.seen = seen;
        this.state = number * 0x9E3779B97F4A7C15L + 1;
    }

    public static void main(String[] args) {
        Due due = new Due();
        Seen seen = new Seen();
        for (int number = 1; number <= RUNS && !due.hasWrong(); number++) {
            new ModelTest(due, number, seen).play();
        }
        if (!due.hasWrong()) {
            lookAt(due, seen);
        }
        due.end();
    }

    private static void lookAt(Due due, Seen seen) {
        for (int status = 1; status <= 5; status++) {
            due.is("runs met status " + status, true, seen.statuses[status] > 50);
        }
        for (int waiting = 1; waiting <= 3; waiting++) {
            due.is("runs met " + waiting + " that wait", true, seen.waiting[waiting] > 50);
        }
        due.is("runs met objects moved", true, seen.moved > 50);
        due.is("runs met patches applied while a run goes on", true, seen.appliedWhileRunning > 50);
        due.is("runs met bad places", true, seen.bad > 50);
        due.is("runs met methods restricted but not touched", true, seen.restrictedNotTouched > 50);
    }

    private int below(int bound) {
        state = state * 6364136223846793005L + 1442695040888963407L;
        return (int) ((state >>> 33) % bound);
    }

    private boolean chance(int of100) {
        return below(100) < of100;
    }

    private void play() {
        if (chance(75)) {
            writeMakers(1 + below(3));
        }
        while (calls < CALLS && !due.hasWrong()) {
            int kind = below(100);
            if (model.status != 1 && chance(40)) {
                start();
            } else if (!model.things.isEmpty() && chance(4)) {
                writeClassAlone();
            } else if (kind < 2) {
                writeChain(below(3));
            } else if (kind < 12) {
                writeMethod(below(chance(70) ? 3 : 6));
            } else if (kind < 18) {
                writeClass(1 + below(3));
            } else if (kind < 36) {
                commit();
            } else if (kind < 46) {
                start();
            } else if (kind < 92) {
                run(chance(80) ? 1 + below(8) : chance(80) ? 1 + below(300) : below(310) - 5);
            } else if (kind < 93) {
                is("drop()", model.drop(), x.drop());
            } else {
                strayCall();
            }
        }
    }

    private void is(String call, boolean want, boolean got) {
        is(call, want ? 1 : 0, got ? 1 : 0);
    }

    /** One call that may change something, and then all that can be asked. */
    private void is(String call, int want, int got) {
        calls++;
        String where = "run " + number + ", call " + calls + ", " + call;
        due.is(where, want, got);
        due.is(where + ", then waiting()", model.line.size(), x.waiting());
        due.is(where + ", then restricted()", model.restricted(), x.restricted());
        due.is(where + ", then applied()", model.applied, x.applied());
        due.is(where + ", then moved()", model.moved, x.moved());
        due.is(where + ", then status()", model.status, x.status());
        due.is(where + ", then result()", model.result, x.result());
        due.is(where + ", then depth()", model.frames.size(), x.depth());
        due.is(where + ", then objects()", model.things.size(), x.objects());
        due.is(where + ", then outputs()", model.numbers.size(), x.outputs());
        for (int k = -1; k <= 8; k++) {
            due.is(where + ", then frame(" + k + ")", model.frame(k), x.frame(k));
        }
        for (int back = -1; back <= 16; back++) {
            due.is(where + ", then output(" + back + ")", model.output(back), x.output(back));
        }
        for (int c = 0; c <= 4; c++) {
            for (int k = -2; k <= 4; k++) {
                due.is(where + ", then shape(" + c + ", " + k + ")", model.shape(c, k), x.shape(c, k));
            }
        }
        seen.waiting[model.line.size()]++;
    }

    private void commit() {
        Model.Program draft = model.draft;
        int appliedBefore = model.applied;
        int movedBefore = model.moved;
        int want = model.commit();
        is("commit()", want, x.commit());
        seen.bad += want > 0 ? 1 : 0;
        if (want == 0) {
            for (int m = 0; m < 6; m++) {
                boolean restricted = (draft.restricted >> m & 1) != 0;
                seen.restrictedNotTouched += restricted && !draft.touchedMethods.contains(m) ? 1 : 0;
            }
        }
        seen.appliedWhileRunning += model.applied > appliedBefore && model.status == 1 ? 1 : 0;
        seen.moved += model.moved > movedBefore ? 1 : 0;
        // A draft that is not sound would seldom become so by what is written behind it.
        if (want > 0 && chance(60)) {
            is("drop()", model.drop(), x.drop());
        }
    }

    private void start() {
        int m = chance(90) ? below(6) : below(9) - 2;
        is("start(" + m + ")", model.start(m), x.start(m));
    }

    private void run(int n) {
        int before = model.status;
        int appliedBefore = model.applied;
        int movedBefore = model.moved;
        is("run(" + n + ")", model.run(n), x.run(n));
        if (before == 1) {
            seen.statuses[model.status]++;
        }
        seen.appliedWhileRunning += model.applied > appliedBefore && model.status == 1 ? 1 : 0;
        seen.moved += model.moved > movedBefore ? 1 : 0;
    }

    private void layout(int c) {
        is("layout(" + c + ")", model.layout(c), x.layout(c));
    }

    private void field(int c, int name, int type, int from) {
        String call = "field(" + c + ", " + name + ", " + type + ", " + from + ")";
        is(call, model.field(c, name, type, from), x.field(c, name, type, from));
    }

    private void head(int m, int parameters, int locals, int result) {
        String call = "head(" + m + ", " + parameters + ", " + locals + ", " + result + ")";
        is(call, model.head(m, parameters, locals, result), x.head(m, parameters, locals, result));
    }

    private void code(int m, int op, int xx, int y) {
        String call = "code(" + m + ", " + op + ", " + xx + ", " + y + ")";
        is(call, model.code(m, op, xx, y), x.code(m, op, xx, y));
    }

    private void strayCall() {
        switch (below(4)) {
            case 0: layout(below(6) - 1); break;
            case 1: field(below(6) - 1, below(12) - 1, below(6) - 1, below(12) - 1); break;
            case 2: head(chance(30) ? below(8) - 1 : 6, below(6) - 1, below(300) - 20, below(6) - 1); break;
            default: code(below(8) - 1, below(19) - 1, below(16) - 1, chance(70) ? 0 : below(12) - 1); break;
        }
    }

    /** A class whose objects can be in a chain, and methods that make one, put one behind another, and read one. */
    private void writeMakers(int c) {
        int name = below(9);
        layout(c);
        field(c, name, c, -1);
        field(c, name + 1, 0, -1);
        head(5, 0, below(256), c);
        code(5, 10, c, 0);
        code(5, 14, 0, 0);
        head(4, 2, c | c << 2, c);
        code(4, 2, 0, 0);
        code(4, 2, 1, 0);
        code(4, 12, c, name);
        code(4, 2, 0, 0);
        code(4, 14, 0, 0);
        head(3, 1, c, c);
        code(3, 2, 0, 0);
        code(3, 11, c, name);
        code(3, 14, 0, 0);
        for (int m = 0; m < 3; m++) {
            head(m, 0, c | below(4) << 2 | c << 4 | below(4) << 6, m == 2 ? c : 0);
            code(m, m == 2 ? 1 : 0, m == 2 ? c : 1, 0);
            code(m, 14, 0, 0);
        }
        commit();
    }

    /** New fields for a class, most of them with the names and types that it had. */
    private void writeClass(int c) {
        List<Model.Field> old = new ArrayList<>(model.newest.classes.get(c));
        layout(c);
        for (Model.Field field : old) {
            if (chance(90)) {
                field(c, field.name(), field.type(), chance(70) ? field.name() : -1);
            }
        }
        while (chance(50)) {
            int type = below(4);
            int from = old.isEmpty() || chance(50) ? -1 : old.get(below(old.size())).name();
            field(c, below(10), type, from);
        }
    }

    /** A loop that puts one object behind another until there are too many, or lets go the chain at times. */
    private void writeChain(int m) {
        Model.Method maker = model.draft.methods.get(5);
        int c = maker == null ? 1 : maker.result();
        head(m, 0, c | c << 2, 0);
        code(m, 13, 5, 0);
        code(m, 2, 0, 0);
        code(m, 13, 4, 0);
        code(m, 3, 0, 0);
        if (chance(40)) {
            code(m, 2, 0, 0);
            code(m, 13, 3, 0);
            code(m, 3, chance(50) ? 0 : 1, 0);
        }
        code(m, 8, 0, 0);
        commit();
    }

    /** A patch of a class that objects have, made at once, so that it may find them while a run goes on. */
    private void writeClassAlone() {
        if (model.drop() | x.drop()) {
            calls++;
        }
        writeClass(model.things.get(below(model.things.size())).type);
        commit();
    }

    /** A new code for a method; its head stays as it was for the most part, and most codes are sound. */
    private void writeMethod(int m) {
        Model.Method old = model.newest.methods.get(m);
        if (old == null || chance(15)) {
            head(m, chance(50) ? 0 : below(4), below(256), chance(60) ? 0 : below(4));
        } else {
            int packed = old.locals()[0] | old.locals()[1] << 2 | old.locals()[2] << 4 | old.locals()[3] << 6;
            head(m, old.parameters(), packed, old.result());
        }
        isHolder = chance(60);
        List<int[]> code = soundCode(model.draft.methods.get(m));
        if (chance(8) && !code.isEmpty()) {
            int[] line = code.get(below(code.size()));
            line[below(2)] = below(14);
        }
        for (int[] line : code) {
            code(m, line[0], line[1], line[2]);
        }
    }

    /** Statements until the code is nearly full, and then a RETURN or a JUMP; jumps lead to where statements begin. */
    private List<int[]> soundCode(Model.Method method) {
        List<int[]> end = new ArrayList<>();
        for (int i = 0; i < 50; i++) {
            end.clear();
            putExpression(end, method, method.result(), 1);
            end.add(new int[] {14, 0, 0});
            if (end.size() <= 5) {
                break;
            }
        }
        if (chance(10)) {
            end.clear();
            end.add(new int[] {8, -1, 0});
        }
        List<int[]> code = new ArrayList<>();
        List<Integer> starts = new ArrayList<>();
        for (int i = 0; i < 5; i++) {
            List<int[]> statement = new ArrayList<>();
            putStatement(statement, method);
            if (code.size() + statement.size() + end.size() <= 14) {
                starts.add(code.size());
                code.addAll(statement);
            }
        }
        starts.add(code.size());
        code.addAll(end);
        for (int[] line : code) {
            if (line[0] == 8 || line[0] == 9) {
                line[1] = starts.get(below(starts.size()));
            }
        }
        return code;
    }

    private void putStatement(List<int[]> code, Model.Method method) {
        int kind = below(100);
        int c = 1 + below(3);
        List<Model.Field> fields = model.draft.classes.get(c);
        if (kind < 35) {
            int local = below(4);
            putExpression(code, method, method.locals()[local], EXPRESSION_DEPTH);
            code.add(new int[] {3, local, 0});
        } else if (kind < 60 && !isHolder && !fields.isEmpty()) {
            Model.Field field = fields.get(below(fields.size()));
            putExpression(code, method, c, 1);
            putExpression(code, method, field.type(), 1);
            code.add(new int[] {12, c, field.name()});
        } else if (kind < 75) {
            putExpression(code, method, 0, EXPRESSION_DEPTH);
            code.add(new int[] {9, -1, 0});
        } else {
            putExpression(code, method, 0, EXPRESSION_DEPTH);
            code.add(new int[] {16, 0, 0});
        }
    }

    private void putExpression(List<int[]> code, Model.Method method, int type, int depth) {
        int kind = below(100);
        if (kind < (isHolder ? 55 : 30)) {
            if (putCall(code, method, type, depth)) {
                return;
            }
        } else if (kind < 55 && putGet(code, method, type, depth)) {
            return;
        }
        int local = below(4);
        if (kind < 80 && method.locals()[local] == type) {
            code.add(new int[] {2, local, 0});
        } else if (type != 0) {
            code.add(new int[] {!isHolder && chance(70) ? 10 : 1, type, 0});
        } else if (depth > 0 && chance(40)) {
            boolean same = chance(40);
            int operands = same ? 1 + below(3) : 0;
            putExpression(code, method, operands, depth - 1);
            putExpression(code, method, operands, depth - 1);
            code.add(same ? new int[] {15, operands, 0} : new int[] {4 + below(4), 0, 0});
        } else {
            code.add(new int[] {0, chance(90) ? below(5) - 1 : below(Integer.MAX_VALUE), 0});
        }
    }

    private boolean putCall(List<int[]> code, Model.Method method, int type, int depth) {
        int m = chance(50) ? 3 + below(3) : below(6);
        Model.Method callee = model.draft.methods.get(m);
        boolean isSelf = callee == method;
        if (depth == 0 || callee == null || callee.result() != type || !isSelf && !model.draft.isDefined(m)) {
            return false;
        }
        for (int i = 0; i < callee.parameters(); i++) {
            putExpression(code, method, callee.locals()[i], depth - 1);
        }
        code.add(new int[] {13, m, 0});
        return true;
    }

    private boolean putGet(List<int[]> code, Model.Method method, int type, int depth) {
        int c = 1 + below(3);
        List<Model.Field> fields = model.draft.classes.get(c);
        if (depth == 0 || fields.isEmpty()) {
            return false;
        }
        Model.Field field = fields.get(below(fields.size()));
        if (field.type() != type) {
            return false;
        }
        putExpression(code, method, c, depth - 1);
        code.add(new int[] {11, c, field.name()});
        return true;
    }
}
