/** A machine whose program is patched while it runs; the project's document numbers what each call promises. */
public final class PatchedMachine {
    private static final int CLASSES = 3;
    private static final int METHODS = 6;
    private static final int MOST_FIELDS = 4;
    private static final int MOST_NAME = 9;
    private static final int MOST_PARAMETERS = 3;
    private static final int LOCALS = 4;
    private static final int MOST_PACKED_LOCALS = 255;
    private static final int MOST_CODE = 14;
    private static final int MOST_STACK = 6;
    private static final int MOST_OBJECTS = 16;
    private static final int MOST_FRAMES = 8;
    private static final int MOST_WAITING = 3;
    private static final int MOST_STEPS = 300;
    private static final int OUTPUTS_KEPT = 16;

    private static final int INT = 0;
    private static final int NULL_REFERENCE = 0;
    private static final int NO_SOURCE = -1;
    private static final int NONE = -1;

    private static final int PUSH = 0;
    private static final int NULL = 1;
    private static final int LOAD = 2;
    private static final int STORE = 3;
    private static final int ADD = 4;
    private static final int SUB = 5;
    private static final int MUL = 6;
    private static final int LESS = 7;
    private static final int JUMP = 8;
    private static final int ZERO = 9;
    private static final int NEW = 10;
    private static final int GET = 11;
    private static final int PUT = 12;
    private static final int CALL = 13;
    private static final int RETURN = 14;
    private static final int SAME = 15;
    private static final int OUT = 16;

    private static final int GOING_ON = 1;
    private static final int RETURNED = 2;
    private static final int VOID = 3;
    private static final int FULL = 4;
    private static final int DEEP = 5;

    private final Program draft;
    private final PatchLine line;
    private final Checker checker;
    private final Runner runner;
    private int applied;
    private int moved;

    public PatchedMachine() {
        draft = new Program();
        line = new PatchLine();
        checker = new Checker();
        runner = new Runner();
        applied = 0;
        moved = 0;
    }

    public boolean layout(int c) {
        if (!isClass(c)) {
            return false;
        }
        draft.clearClass(c);
        return true;
    }

    public boolean field(int c, int name, int type, int from) {
        if (!isClass(c) || !draft.touchesClass(c) || !isName(name) || !isType(type)) {
            return false;
        }
        Layout fields = draft.layouts[c];
        if (fields.isFull() || fields.find(name) != NONE) {
            return false;
        }
        if (from != NO_SOURCE && line.newest().layouts[c].typeNamed(from) != type) {
            return false;
        }
        fields.add(name, type, from);
        return true;
    }

    public boolean head(int m, int parameters, int locals, int result) {
        if (!isMethod(m) || !isType(result)) {
            return false;
        }
        if (parameters < 0 || parameters > MOST_PARAMETERS || locals < 0 || locals > MOST_PACKED_LOCALS) {
            return false;
        }
        draft.beginMethod(m, parameters, locals, result);
        return true;
    }

    public boolean code(int m, int op, int x, int y) {
        if (!isMethod(m) || !draft.touchesMethod(m) || draft.routines[m].isFull()) {
            return false;
        }
        if (op < PUSH || op > OUT || !fitsX(op, x) || !fitsY(op, y)) {
            return false;
        }
        draft.routines[m].add(op, x, y);
        return true;
    }

    public boolean drop() {
        if (!draft.touchesAnything()) {
            return false;
        }
        draft.beginAs(line.newest());
        return true;
    }

    public int commit() {
        if (!draft.touchesAnything() || line.isFull()) {
            return -1;
        }
        int bad = checker.firstBadPlace(draft);
        if (bad != NONE) {
            return 1 + bad;
        }
        draft.restrict(line.newest());
        line.add(draft);
        draft.beginAs(line.newest());
        applyWhatCan();
        return 0;
    }

    public int waiting() {
        return line.length;
    }

    public int restricted() {
        return line.length == 0 ? 0 : line.firstWaiting().restrictedMethods;
    }

    public int applied() {
        return applied;
    }

    public int moved() {
        return moved;
    }

    public boolean start(int m) {
        if (runner.goesOn() || !isMethod(m)) {
            return false;
        }
        Routine routine = line.present().routines[m];
        if (!routine.isDefined() || routine.parameters != 0 || routine.result != INT) {
            return false;
        }
        runner.begin(m);
        return true;
    }

    public int run(int n) {
        if (n < 1 || n > MOST_STEPS || !runner.goesOn()) {
            return -1;
        }
        int steps = 0;
        while (steps < n && runner.goesOn()) {
            runner.step(line.present());
            applyWhatCan();
            steps++;
        }
        return steps;
    }

    public int status() {
        return runner.status;
    }

    public int result() {
        return runner.result;
    }

    public int depth() {
        return runner.depth;
    }

    public int frame(int k) {
        if (k < 0 || k >= runner.depth) {
            return -1;
        }
        Frame below = runner.frames[runner.depth - 1 - k];
        return 100 * below.method + below.place;
    }

    public int objects() {
        return runner.heap.count;
    }

    public int output(int back) {
        return runner.printer.latestBut(back);
    }

    public int outputs() {
        return runner.printer.count;
    }

    public int shape(int c, int k) {
        if (!isClass(c)) {
            return -1;
        }
        Layout fields = line.present().layouts[c];
        if (k == -1) {
            return fields.size;
        }
        if (k < 0 || k >= fields.size) {
            return -1;
        }
        return 16 * fields.names[k] + fields.types[k];
    }

    private void applyWhatCan() {
        for (int i = 0; i < MOST_WAITING && line.length > 0; i++) {
            if (runner.hasFrameOfOneOf(line.firstWaiting().restrictedMethods)) {
                return;
            }
            Program before = line.present();
            runner.collect(before);
            moved += runner.heap.moveObjects(before, line.firstWaiting());
            line.advance();
            applied++;
        }
    }

    private static boolean isClass(int c) {
        return c >= 1 && c <= CLASSES;
    }

    private static boolean isMethod(int m) {
        return m >= 0 && m < METHODS;
    }

    private static boolean isName(int name) {
        return name >= 0 && name <= MOST_NAME;
    }

    private static boolean isType(int type) {
        return type == INT || isClass(type);
    }

    private static boolean fitsX(int op, int x) {
        switch (op) {
            case PUSH:
                return true;
            case NULL:
            case NEW:
            case GET:
            case PUT:
            case SAME:
                return isClass(x);
            case LOAD:
            case STORE:
                return x >= 0 && x < LOCALS;
            case JUMP:
            case ZERO:
                return x >= 0 && x < MOST_CODE;
            case CALL:
                return isMethod(x);
            default:
                return x == 0;
        }
    }

    private static boolean fitsY(int op, int y) {
        return op == GET || op == PUT ? isName(y) : y == 0;
    }

    /** The fields of one class, in order. */
    private static final class Layout {
        private final int[] names = new int[MOST_FIELDS];
        private final int[] types = new int[MOST_FIELDS];
        private final int[] sources = new int[MOST_FIELDS];
        private int size = 0;

        private void clear() {
            size = 0;
        }

        private boolean isFull() {
            return size >= MOST_FIELDS;
        }

        private void add(int name, int type, int source) {
            if (isFull()) {
                return;
            }
            names[size] = name;
            types[size] = type;
            sources[size] = source;
            size++;
        }

        private int find(int name) {
            for (int k = 0; k < size; k++) {
                if (names[k] == name) {
                    return k;
                }
            }
            return NONE;
        }

        private int typeNamed(int name) {
            int k = find(name);
            return k == NONE ? NONE : types[k];
        }

        private void copy(Layout other) {
            size = other.size;
            System.arraycopy(other.names, 0, names, 0, MOST_FIELDS);
            System.arraycopy(other.types, 0, types, 0, MOST_FIELDS);
            System.arraycopy(other.sources, 0, sources, 0, MOST_FIELDS);
        }
    }

    /** The head and the code of one method; without code it is not defined. */
    private static final class Routine {
        private final int[] locals = new int[LOCALS];
        private final int[] ops = new int[MOST_CODE];
        private final int[] xs = new int[MOST_CODE];
        private final int[] ys = new int[MOST_CODE];
        private int parameters = 0;
        private int result = INT;
        private int length = 0;

        private void begin(int parameterCount, int packedLocals, int resultType) {
            parameters = parameterCount;
            result = resultType;
            length = 0;
            for (int i = 0; i < LOCALS; i++) {
                locals[i] = packedLocals >> 2 * i & 3;
            }
        }

        private boolean isDefined() {
            return length > 0;
        }

        private boolean isFull() {
            return length >= MOST_CODE;
        }

        private void add(int op, int x, int y) {
            if (isFull()) {
                return;
            }
            ops[length] = op;
            xs[length] = x;
            ys[length] = y;
            length++;
        }

        private boolean hasPlace(int place) {
            return place >= 0 && place < length;
        }

        private boolean jumpsTo(int place) {
            for (int i = 0; i < length; i++) {
                if ((ops[i] == JUMP || ops[i] == ZERO) && xs[i] == place) {
                    return true;
                }
            }
            return false;
        }

        private boolean usesOneOfClasses(int classes) {
            for (int i = 0; i < length; i++) {
                boolean uses = ops[i] == NEW || ops[i] == GET || ops[i] == PUT;
                if (uses && (classes >> xs[i] & 1) != 0) {
                    return true;
                }
            }
            return false;
        }

        private boolean callsOneOfMethods(int methods) {
            for (int i = 0; i < length; i++) {
                if (ops[i] == CALL && (methods >> xs[i] & 1) != 0) {
                    return true;
                }
            }
            return false;
        }

        private boolean isCalledLike(Routine other) {
            if (parameters != other.parameters || result != other.result) {
                return false;
            }
            for (int i = 0; i < parameters; i++) {
                if (locals[i] != other.locals[i]) {
                    return false;
                }
            }
            return true;
        }

        private void copy(Routine other) {
            parameters = other.parameters;
            result = other.result;
            length = other.length;
            System.arraycopy(other.locals, 0, locals, 0, LOCALS);
            System.arraycopy(other.ops, 0, ops, 0, MOST_CODE);
            System.arraycopy(other.xs, 0, xs, 0, MOST_CODE);
            System.arraycopy(other.ys, 0, ys, 0, MOST_CODE);
        }
    }

    /** Three classes and six methods, and what of them is new against the program before (bit c or m). */
    private static final class Program {
        /** An int has an empty layout of its own, so that every type is an index. */
        private final Layout[] layouts = new Layout[CLASSES + 1];
        private final Routine[] routines = new Routine[METHODS];
        private int touchedClasses = 0;
        private int touchedMethods = 0;
        private int restrictedMethods = 0;

        private Program() {
            for (int c = 0; c <= CLASSES; c++) {
                layouts[c] = new Layout();
            }
            for (int m = 0; m < METHODS; m++) {
                routines[m] = new Routine();
            }
        }

        private void clearClass(int c) {
            layouts[c].clear();
            touchedClasses |= 1 << c;
        }

        private void beginMethod(int m, int parameters, int packedLocals, int result) {
            routines[m].begin(parameters, packedLocals, result);
            touchedMethods |= 1 << m;
        }

        private boolean touchesClass(int c) {
            return (touchedClasses >> c & 1) != 0;
        }

        private boolean touchesMethod(int m) {
            return (touchedMethods >> m & 1) != 0;
        }

        private boolean touchesAnything() {
            return touchedClasses != 0 || touchedMethods != 0;
        }

        private void copy(Program other) {
            for (int c = 0; c <= CLASSES; c++) {
                layouts[c].copy(other.layouts[c]);
            }
            for (int m = 0; m < METHODS; m++) {
                routines[m].copy(other.routines[m]);
            }
            touchedClasses = other.touchedClasses;
            touchedMethods = other.touchedMethods;
            restrictedMethods = other.restrictedMethods;
        }

        private void beginAs(Program other) {
            copy(other);
            touchedClasses = 0;
            touchedMethods = 0;
            restrictedMethods = 0;
        }

        private void restrict(Program before) {
            int calledOtherwise = methodsCalledOtherwise(before);
            restrictedMethods = touchedMethods;
            for (int m = 0; m < METHODS; m++) {
                Routine old = before.routines[m];
                if (old.usesOneOfClasses(touchedClasses) || old.callsOneOfMethods(calledOtherwise)) {
                    restrictedMethods |= 1 << m;
                }
            }
        }

        private int methodsCalledOtherwise(Program before) {
            int methods = 0;
            for (int m = 0; m < METHODS; m++) {
                if (!routines[m].isCalledLike(before.routines[m])) {
                    methods |= 1 << m;
                }
            }
            return methods;
        }
    }

    /** The present program and behind it the patches that wait, in a ring of rows that are used again. */
    private static final class PatchLine {
        private static final int RING = MOST_WAITING + 1;
        private final Program[] ring = new Program[RING];
        private int first = 0;
        private int length = 0;

        private PatchLine() {
            for (int i = 0; i < RING; i++) {
                ring[i] = new Program();
            }
        }

        private Program present() {
            return ring[first];
        }

        private Program firstWaiting() {
            return ring[(first + 1) % RING];
        }

        private Program newest() {
            return ring[(first + length) % RING];
        }

        private boolean isFull() {
            return length >= MOST_WAITING;
        }

        private void add(Program patch) {
            if (isFull()) {
                return;
            }
            length++;
            newest().copy(patch);
        }

        private void advance() {
            if (length == 0) {
                return;
            }
            first = (first + 1) % RING;
            length--;
        }
    }

    /** Goes through methods with a stack of types. */
    private static final class Checker {
        private final int[] stack = new int[MOST_STACK];
        private int height = 0;
        private boolean bad = false;

        /** 100 * method + place, or NONE if the program is sound. */
        private int firstBadPlace(Program program) {
            for (int m = 0; m < METHODS; m++) {
                int place = firstBadPlaceOf(program.routines[m], program);
                if (place != NONE) {
                    return 100 * m + place;
                }
            }
            return NONE;
        }

        private int firstBadPlaceOf(Routine routine, Program program) {
            height = 0;
            bad = false;
            for (int place = 0; place < routine.length; place++) {
                if (routine.jumpsTo(place)) {
                    needEmpty();
                }
                check(routine, place, program);
                if (place == routine.length - 1) {
                    needNoWayOut(routine.ops[place]);
                }
                if (bad) {
                    return place;
                }
            }
            return NONE;
        }

        private void check(Routine routine, int place, Program program) {
            int x = routine.xs[place];
            switch (routine.ops[place]) {
                case PUSH:
                    put(INT);
                    break;
                case NULL:
                case NEW:
                    put(x);
                    break;
                case LOAD:
                    put(routine.locals[x]);
                    break;
                case STORE:
                    take(routine.locals[x]);
                    break;
                case JUMP:
                    checkJump(routine, x);
                    break;
                case ZERO:
                    take(INT);
                    checkJump(routine, x);
                    break;
                case GET:
                    checkGet(x, program.layouts[x].typeNamed(routine.ys[place]));
                    break;
                case PUT:
                    checkPut(x, program.layouts[x].typeNamed(routine.ys[place]));
                    break;
                case CALL:
                    checkCall(program.routines[x]);
                    break;
                case RETURN:
                    take(routine.result);
                    needEmpty();
                    break;
                case SAME:
                    takeTwoPutInt(x);
                    break;
                case OUT:
                    take(INT);
                    break;
                default:
                    takeTwoPutInt(INT);
                    break;
            }
        }

        private void checkJump(Routine routine, int place) {
            needEmpty();
            if (!routine.hasPlace(place)) {
                bad = true;
            }
        }

        private void checkGet(int c, int fieldType) {
            take(c);
            needField(fieldType);
            put(fieldType);
        }

        private void checkPut(int c, int fieldType) {
            needField(fieldType);
            take(fieldType);
            take(c);
        }

        private void checkCall(Routine callee) {
            if (!callee.isDefined()) {
                bad = true;
            }
            for (int i = callee.parameters - 1; i >= 0; i--) {
                take(callee.locals[i]);
            }
            put(callee.result);
        }

        private void takeTwoPutInt(int type) {
            take(type);
            take(type);
            put(INT);
        }

        private void needEmpty() {
            if (height != 0) {
                bad = true;
            }
        }

        private void needField(int fieldType) {
            if (fieldType == NONE) {
                bad = true;
            }
        }

        private void needNoWayOut(int lastOp) {
            if (lastOp != JUMP && lastOp != RETURN) {
                bad = true;
            }
        }

        private void take(int type) {
            if (height == 0) {
                bad = true;
                return;
            }
            height--;
            if (stack[height] != type) {
                bad = true;
            }
        }

        private void put(int type) {
            if (height >= MOST_STACK) {
                bad = true;
                return;
            }
            stack[height] = type;
            height++;
        }
    }

    /** A method being run; its stack tells with each value its type, so that a collection knows the objects. */
    private static final class Frame {
        private final int[] locals = new int[LOCALS];
        private final int[] stack = new int[MOST_STACK];
        private final int[] stackTypes = new int[MOST_STACK];
        private int height = 0;
        private int method = 0;
        private int place = 0;

        private void begin(int m) {
            method = m;
            place = 0;
            height = 0;
            for (int i = 0; i < LOCALS; i++) {
                locals[i] = 0;
            }
        }

        private void put(int value, int type) {
            if (height >= MOST_STACK) {
                return;
            }
            stack[height] = value;
            stackTypes[height] = type;
            height++;
        }

        private int take() {
            if (height == 0) {
                return 0;
            }
            height--;
            return stack[height];
        }
    }

    /** The objects; a reference is 1 + the row of its object. */
    private static final class Heap {
        /** INT where the row is free. */
        private final int[] classes = new int[MOST_OBJECTS];
        private final int[][] values = new int[MOST_OBJECTS][MOST_FIELDS];
        private final int[] newValues = new int[MOST_FIELDS];
        private final boolean[] isReached = new boolean[MOST_OBJECTS];
        private final int[] reachedRows = new int[MOST_OBJECTS];
        private int reachedCount = 0;
        private int count = 0;

        private boolean isFull() {
            return count >= MOST_OBJECTS;
        }

        private boolean isObject(int reference) {
            return reference >= 1 && reference <= MOST_OBJECTS;
        }

        private int make(int c) {
            for (int row = 0; row < MOST_OBJECTS; row++) {
                if (classes[row] == INT) {
                    classes[row] = c;
                    count++;
                    clearValues(values[row]);
                    return row + 1;
                }
            }
            return NULL_REFERENCE;
        }

        private int valueAt(int reference, int k) {
            return isObject(reference) && isField(k) ? values[reference - 1][k] : 0;
        }

        private void setValue(int reference, int k, int value) {
            if (isObject(reference) && isField(k)) {
                values[reference - 1][k] = value;
            }
        }

        private static boolean isField(int k) {
            return k >= 0 && k < MOST_FIELDS;
        }

        private static void clearValues(int[] row) {
            for (int k = 0; k < MOST_FIELDS; k++) {
                row[k] = 0;
            }
        }

        private void beginCollection() {
            reachedCount = 0;
            for (int row = 0; row < MOST_OBJECTS; row++) {
                isReached[row] = false;
            }
        }

        private void reach(int value, int type) {
            if (type == INT || value < 1 || value > MOST_OBJECTS || isReached[value - 1]) {
                return;
            }
            isReached[value - 1] = true;
            reachedRows[reachedCount] = value - 1;
            reachedCount++;
        }

        private void reachOverFields(Program present) {
            // The count grows while the rows are followed, up to the number of rows.
            for (int i = 0; i < reachedCount && i < MOST_OBJECTS; i++) {
                int row = reachedRows[i];
                Layout fields = present.layouts[classes[row]];
                for (int k = 0; k < fields.size; k++) {
                    reach(values[row][k], fields.types[k]);
                }
            }
        }

        private void takeAwayTheRest() {
            for (int row = 0; row < MOST_OBJECTS; row++) {
                if (!isReached[row]) {
                    classes[row] = INT;
                }
            }
            count = reachedCount;
        }

        /** Answers how many objects it gave new fields. */
        private int moveObjects(Program before, Program patch) {
            int movedNow = 0;
            for (int row = 0; row < MOST_OBJECTS; row++) {
                int c = classes[row];
                if (patch.touchesClass(c)) {
                    moveValues(values[row], before.layouts[c], patch.layouts[c]);
                    movedNow++;
                }
            }
            return movedNow;
        }

        private void moveValues(int[] row, Layout old, Layout fresh) {
            clearValues(newValues);
            for (int k = 0; k < fresh.size; k++) {
                int source = old.find(fresh.sources[k]);
                if (source != NONE) {
                    newValues[k] = row[source];
                }
            }
            System.arraycopy(newValues, 0, row, 0, MOST_FIELDS);
        }
    }

    /** What was put out: the count of all numbers, and the latest ones. */
    private static final class Printer {
        private final int[] kept = new int[OUTPUTS_KEPT];
        private int count = 0;

        private void print(int number) {
            kept[Math.floorMod(count, OUTPUTS_KEPT)] = number;
            count++;
        }

        private int latestBut(int back) {
            if (back < 0 || back >= OUTPUTS_KEPT || back >= count) {
                return 0;
            }
            return kept[Math.floorMod(count - 1 - back, OUTPUTS_KEPT)];
        }
    }

    /** The frames and objects of the runs. */
    private static final class Runner {
        private final Frame[] frames = new Frame[MOST_FRAMES];
        private final Heap heap = new Heap();
        private final Printer printer = new Printer();
        private int depth = 0;
        private int status = 0;
        private int result = 0;

        private Runner() {
            for (int i = 0; i < MOST_FRAMES; i++) {
                frames[i] = new Frame();
            }
        }

        private boolean goesOn() {
            return status == GOING_ON;
        }

        private void begin(int m) {
            status = GOING_ON;
            result = 0;
            depth = 1;
            frames[0].begin(m);
        }

        private void end(int how) {
            status = how;
            depth = 0;
        }

        private boolean hasFrameOfOneOf(int methods) {
            for (int i = 0; i < depth; i++) {
                if ((methods >> frames[i].method & 1) != 0) {
                    return true;
                }
            }
            return false;
        }

        /**
         * A patch that touches a method is applied only when it has no frame, so that the code of a frame is
         * always that of the present program.
         */
        private void step(Program present) {
            if (depth == 0) {
                return;
            }
            Frame top = frames[depth - 1];
            Routine routine = present.routines[top.method];
            int place = top.place;
            if (!routine.hasPlace(place)) {
                return;
            }
            top.place = place + 1;
            int op = routine.ops[place];
            if (op == NEW || op == GET || op == PUT || op == SAME) {
                stepOnObjects(top, op, routine.xs[place], routine.ys[place], present);
            } else if (op == JUMP || op == ZERO || op == CALL || op == RETURN) {
                stepElsewhere(top, op, routine.xs[place], present);
            } else {
                stepOnValues(top, op, routine.xs[place], routine);
            }
        }

        private void stepOnValues(Frame top, int op, int x, Routine routine) {
            switch (op) {
                case PUSH:
                    top.put(x, INT);
                    break;
                case NULL:
                    top.put(NULL_REFERENCE, x);
                    break;
                case LOAD:
                    top.put(top.locals[x], routine.locals[x]);
                    break;
                case STORE:
                    top.locals[x] = top.take();
                    break;
                case OUT:
                    printer.print(top.take());
                    break;
                default:
                    calculate(top, op);
                    break;
            }
        }

        private static void calculate(Frame top, int op) {
            int b = top.take();
            int a = top.take();
            switch (op) {
                case ADD:
                    top.put(a + b, INT);
                    break;
                case SUB:
                    top.put(a - b, INT);
                    break;
                case MUL:
                    top.put(a * b, INT);
                    break;
                default:
                    top.put(a < b ? 1 : 0, INT);
                    break;
            }
        }

        private void stepElsewhere(Frame top, int op, int x, Program present) {
            switch (op) {
                case JUMP:
                    top.place = x;
                    break;
                case ZERO:
                    if (top.take() == 0) {
                        top.place = x;
                    }
                    break;
                case CALL:
                    enter(top, x, present.routines[x]);
                    break;
                default:
                    leave(top, present.routines[top.method]);
                    break;
            }
        }

        private void enter(Frame caller, int m, Routine callee) {
            if (depth >= MOST_FRAMES) {
                end(DEEP);
                return;
            }
            Frame made = frames[depth];
            made.begin(m);
            for (int i = callee.parameters - 1; i >= 0; i--) {
                made.locals[i] = caller.take();
            }
            depth++;
        }

        private void leave(Frame top, Routine routine) {
            int value = top.take();
            if (depth <= 1) {
                end(RETURNED);
                result = value;
                return;
            }
            depth--;
            frames[depth - 1].put(value, routine.result);
        }

        private void stepOnObjects(Frame top, int op, int x, int y, Program present) {
            switch (op) {
                case NEW:
                    makeObject(top, x, present);
                    break;
                case GET:
                    readField(top, present.layouts[x], y);
                    break;
                case PUT:
                    writeField(top, present.layouts[x], y);
                    break;
                default:
                    top.put(top.take() == top.take() ? 1 : 0, INT);
                    break;
            }
        }

        private void makeObject(Frame top, int c, Program present) {
            if (heap.isFull()) {
                collect(present);
            }
            if (heap.isFull()) {
                end(FULL);
                return;
            }
            top.put(heap.make(c), c);
        }

        private void readField(Frame top, Layout fields, int name) {
            int reference = top.take();
            if (reference == NULL_REFERENCE) {
                end(VOID);
                return;
            }
            top.put(heap.valueAt(reference, fields.find(name)), fields.typeNamed(name));
        }

        private void writeField(Frame top, Layout fields, int name) {
            int value = top.take();
            int reference = top.take();
            if (reference == NULL_REFERENCE) {
                end(VOID);
                return;
            }
            heap.setValue(reference, fields.find(name), value);
        }

        private void collect(Program present) {
            heap.beginCollection();
            for (int i = 0; i < depth; i++) {
                reachFrom(frames[i], present.routines[frames[i].method]);
            }
            heap.reachOverFields(present);
            heap.takeAwayTheRest();
        }

        private void reachFrom(Frame frame, Routine routine) {
            for (int i = 0; i < LOCALS; i++) {
                heap.reach(frame.locals[i], routine.locals[i]);
            }
            for (int i = 0; i < frame.height; i++) {
                heap.reach(frame.stack[i], frame.stackTypes[i]);
            }
        }
    }
}
