/** Promises 7 to 11: what a commit accepts, and how patches wait, are restricted, are applied and move objects. */
public final class PatchTest {
    private static final int[] RETURN = Build.op(Build.RETURN);

    public static void main(String[] args) {
        Due due = new Due();
        commitNeedsATouch(due);
        appliedAtOnce(due);
        atMostThreeWait(due);
        anUntouchedMethodGoesOn(due);
        appliedAfterAStep(due);
        appliedInOrder(due);
        theEndLetsAllBeApplied(due);
        restrictedByTouch(due);
        restrictedByClass(due);
        restrictedByCall(due);
        restrictedByTheProgramBefore(due);
        movedObjects(due);
        movedWhileFramesHoldThem(due);
        movedByEachPatch(due);
        movedTwice(due);
        callsMeetTheNewMethod(due);
        due.end();
    }

    /** Method m calls method 5, which returns 1, and returns what that has returned. */
    private static void caller(PatchedMachine x, int m) {
        Build.method(x, m, 0, 0, 0, Build.op(Build.CALL, 5), RETURN);
    }

    private static void commitNeedsATouch(Due due) {
        PatchedMachine x = new PatchedMachine();
        due.is("commit of nothing", -1, x.commit());
        x.layout(1);
        due.is("commit of a layout like the old one", 0, x.commit());
        due.is("applied", 1, x.applied());
        due.is("commit again", -1, x.commit());
        x.head(0, 0, 0, 0);
        due.is("commit of a head", 0, x.commit());
        due.is("applied", 2, x.applied());
    }

    private static void appliedAtOnce(Due due) {
        PatchedMachine x = new PatchedMachine();
        Build.constant(x, 0, 1);
        due.is("commit", 0, x.commit());
        due.is("nothing waits", 0, x.waiting());
        due.is("nothing is restricted", 0, x.restricted());
        due.is("applied", 1, x.applied());
        due.is("the present program", true, x.start(0));
    }

    private static void atMostThreeWait(Due due) {
        PatchedMachine x = new PatchedMachine();
        Build.constant(x, 0, 1);
        Build.commit(x);
        Build.start(x, 0);
        for (int i = 1; i <= 3; i++) {
            Build.constant(x, 0, 1 + i);
            due.is("commit " + i, 0, x.commit());
            due.is("waiting", i, x.waiting());
        }
        Build.method(x, 0, 0, 0, 0, RETURN);
        due.is("a fourth that is not sound", -1, x.commit());
        Build.constant(x, 0, 5);
        due.is("a fourth", -1, x.commit());
        due.is("still three", 3, x.waiting());
        due.is("none applied", 1, x.applied());
        x.run(2);
        due.is("as it was when it began", 1, x.result());
        due.is("all applied", 4, x.applied());
        due.is("none waits", 0, x.waiting());
        due.is("the draft is kept", 0, x.commit());
        Build.start(x, 0);
        x.run(2);
        due.is("the fourth", 5, x.result());
    }

    private static void anUntouchedMethodGoesOn(Due due) {
        PatchedMachine x = new PatchedMachine();
        caller(x, 0);
        Build.constant(x, 5, 1);
        Build.commit(x);
        Build.start(x, 0);
        Build.constant(x, 5, 2);
        due.is("commit", 0, x.commit());
        due.is("applied while the caller runs", 2, x.applied());
        due.is("none waits", 0, x.waiting());
        due.is("run", 4, x.run(300));
        due.is("the new one was called", 2, x.result());
    }

    private static void appliedAfterAStep(Due due) {
        PatchedMachine x = new PatchedMachine();
        caller(x, 0);
        Build.constant(x, 5, 1);
        Build.commit(x);
        Build.start(x, 0);
        x.run(1);
        Build.constant(x, 5, 2);
        Build.commit(x);
        due.is("waits", 1, x.waiting());
        due.is("restricted", 32, x.restricted());
        x.run(1);
        due.is("waits still", 1, x.waiting());
        due.is("applied not yet", 1, x.applied());
        x.run(1);
        due.is("applied behind RETURN", 2, x.applied());
        due.is("none waits", 0, x.waiting());
        due.is("nothing restricted", 0, x.restricted());
        due.is("the run goes on", 1, x.status());
        x.run(1);
        due.is("the old result", 1, x.result());
    }

    private static void appliedInOrder(Due due) {
        PatchedMachine x = new PatchedMachine();
        caller(x, 0);
        Build.constant(x, 1, 1);
        Build.constant(x, 5, 1);
        Build.commit(x);
        Build.start(x, 0);
        x.run(1);
        Build.constant(x, 5, 2);
        Build.commit(x);
        Build.constant(x, 1, 2);
        Build.commit(x);
        due.is("the second waits behind the first", 2, x.waiting());
        due.is("restricted by the first", 32, x.restricted());
        Build.constant(x, 0, 3);
        Build.commit(x);
        x.run(2);
        due.is("two applied behind one step", 3, x.applied());
        due.is("the third waits", 1, x.waiting());
        due.is("restricted by the third", 1, x.restricted());
        x.run(1);
        due.is("the third applied", 4, x.applied());
        Build.start(x, 0);
        x.run(2);
        due.is("the third's method", 3, x.result());
    }

    private static void theEndLetsAllBeApplied(Due due) {
        PatchedMachine x = new PatchedMachine();
        Build.method(x, 0, 0, 1, 0, Build.op(Build.LOAD, 0), Build.op(Build.GET, 1, 0), RETURN);
        Build.fields(x, 1, new int[] {0, 0, -1});
        Build.commit(x);
        Build.start(x, 0);
        for (int i = 0; i < 3; i++) {
            Build.constant(x, 0, i);
            Build.commit(x);
        }
        due.is("run to VOID", 2, x.run(300));
        due.is("VOID", 3, x.status());
        due.is("all applied", 4, x.applied());
        due.is("none waits", 0, x.waiting());
    }

    /** A run of method 0, which calls no other, is going on, and all six methods are defined. */
    private static PatchedMachine running() {
        PatchedMachine x = new PatchedMachine();
        for (int m = 0; m < 6; m++) {
            Build.constant(x, m, m);
        }
        Build.commit(x);
        Build.start(x, 0);
        return x;
    }

    private static void restrictedByTouch(Due due) {
        PatchedMachine x = running();
        due.is("none waits", 0, x.restricted());
        Build.constant(x, 0, 9);
        Build.constant(x, 3, 3);
        x.head(5, 0, 0, 0);
        due.is("a draft restricts nothing", 0, x.restricted());
        Build.commit(x);
        due.is("touched, one like the old, one taken away", 41, x.restricted());
        Build.constant(x, 1, 1);
        Build.commit(x);
        due.is("still by the first", 41, x.restricted());
    }

    private static void restrictedByClass(Due due) {
        int[][] uses = {Build.op(Build.NULL, 1), Build.op(Build.LOAD, 1), Build.op(Build.NEW, 1)};
        for (int c = 1; c <= 3; c++) {
            PatchedMachine x = new PatchedMachine();
            Build.fields(x, 1, new int[] {0, 0, -1}, new int[] {7, 2, -1});
            Build.fields(x, 2, new int[] {0, 0, -1});
            int locals = Build.locals(0, 1, 2, 3);
            Build.method(x, 0, 0, locals, 0, uses[0], uses[1], Build.op(Build.SAME, 1), RETURN);
            Build.method(x, 1, 0, locals, 0, uses[2], Build.op(Build.STORE, 1), Build.op(Build.PUSH, 1), RETURN);
            Build.method(x, 2, 0, locals, 0, uses[1], Build.op(Build.GET, 1, 0), RETURN);
            Build.method(x, 3, 0, locals, 0, uses[1], Build.op(Build.LOAD, 2), Build.op(Build.PUT, 1, 7),
                    Build.op(Build.PUSH, 1), RETURN);
            Build.method(x, 4, 0, locals, 0, Build.op(Build.LOAD, 2), Build.op(Build.GET, 2, 0), RETURN);
            Build.constant(x, 5, 0);
            Build.commit(x);
            Build.start(x, 5);
            Build.constant(x, 5, 0);
            x.layout(c);
            x.field(c, 0, 0, -1);
            x.field(c, 7, 2, -1);
            Build.commit(x);
            due.is("class " + c, new int[] {0, 32 + 14, 32 + 16, 32}[c], x.restricted());
        }
    }

    private static void restrictedByCall(Due due) {
        callersLeftAsTheyWere(due);
        onlyTheNumberChanges(due);
        onlyTheLastParameterChanges(due);
        onlyOtherLocalsChange(due);
        twoCallersAreRestricted(due);
        callsOfOthersRestrictNothing(due);
    }

    /**
     * Method 1 hands what method 2 returns to method 3, so that it may stay as it is while the type between them
     * changes; it is restricted only by its calls. Method 4 calls another one, whose head stays as it is.
     */
    private static void callersLeftAsTheyWere(Due due) {
        PatchedMachine x = new PatchedMachine();
        Build.constant(x, 0, 0);
        Build.method(x, 1, 0, 0, 0, Build.op(Build.CALL, 2), Build.op(Build.CALL, 3), RETURN);
        between(x, 0);
        caller(x, 4);
        Build.constant(x, 5, 1);
        Build.commit(x);
        Build.start(x, 0);
        between(x, 0);
        Build.constant(x, 0, 0);
        Build.constant(x, 5, 2);
        Build.commit(x);
        due.is("heads like the old ones", 1 + 4 + 8 + 32, x.restricted());
        x.run(2);
        due.is("applied", 2, x.applied());
        Build.start(x, 0);
        between(x, 1);
        Build.constant(x, 0, 0);
        Build.commit(x);
        due.is("another type of the result and of the parameter", 1 + 2 + 4 + 8, x.restricted());
        x.run(2);
        Build.start(x, 1);
        x.run(1);
        between(x, 2);
        Build.commit(x);
        due.is("waits for the caller that is not touched", 1, x.waiting());
        x.run(2);
        due.is("the callee has returned", 1, x.depth());
        due.is("still waits for the caller", 1, x.waiting());
        x.run(300);
        due.is("the caller has returned", 0, x.waiting());
        due.is("it ran soundly", 2, x.status());
    }

    /** Methods 2 and 3 with a type between them: the result of 2 and the parameter of 3. */
    private static void between(PatchedMachine x, int type) {
        Build.method(x, 2, 0, 0, type, Build.op(type == 0 ? Build.PUSH : Build.NULL, type), RETURN);
        Build.method(x, 3, 1, Build.locals(type), 0, Build.op(Build.PUSH, 7), RETURN);
    }

    /** Of two calls in one code, one takes a parameter more and the other one fewer: the code stays sound. */
    private static void onlyTheNumberChanges(Due due) {
        PatchedMachine x = new PatchedMachine();
        Build.method(x, 0, 0, 0, 0, Build.op(Build.PUSH, 1), Build.op(Build.PUSH, 2), Build.op(Build.CALL, 1),
                Build.op(Build.CALL, 2), RETURN);
        Build.method(x, 3, 0, 0, 0, Build.op(Build.PUSH, 1), RETURN);
        withParameters(x, 1, 1);
        withParameters(x, 2, 2);
        Build.commit(x);
        Build.start(x, 0);
        withParameters(x, 1, 2);
        withParameters(x, 2, 1);
        Build.commit(x);
        due.is("other numbers of parameters", 7, x.restricted());
        due.is("waits", 1, x.waiting());
        x.run(300);
        due.is("applied at the end", 2, x.applied());
    }

    private static void withParameters(PatchedMachine x, int m, int parameters) {
        Build.method(x, m, parameters, 0, 0, Build.op(Build.LOAD, 0), RETURN);
    }

    private static void onlyTheLastParameterChanges(Due due) {
        PatchedMachine x = new PatchedMachine();
        Build.method(x, 0, 0, 0, 0, Build.op(Build.PUSH, 1), Build.op(Build.PUSH, 2), Build.op(Build.CALL, 2),
                Build.op(Build.CALL, 3), RETURN);
        lastParameter(x, 2);
        Build.commit(x);
        Build.start(x, 0);
        lastParameter(x, 2);
        Build.commit(x);
        due.is("the same last parameter", 0, x.waiting());
        lastParameter(x, 1);
        Build.commit(x);
        due.is("another last parameter", 1 + 4 + 8, x.restricted());
    }

    /** Method 2 returns what method 3 takes as the last one of three. */
    private static void lastParameter(PatchedMachine x, int type) {
        Build.method(x, 2, 0, 0, type, Build.op(Build.NULL, type), RETURN);
        Build.method(x, 3, 3, Build.locals(0, 0, type), 0, Build.op(Build.LOAD, 1), RETURN);
    }

    private static void twoCallersAreRestricted(Due due) {
        PatchedMachine x = new PatchedMachine();
        Build.method(x, 0, 0, 0, 0, Build.op(Build.CALL, 2), Build.op(Build.CALL, 3), RETURN);
        Build.method(x, 1, 0, 0, 0, Build.op(Build.CALL, 4), Build.op(Build.CALL, 5), RETURN);
        twoPairs(x, 1);
        Build.commit(x);
        Build.start(x, 0);
        twoPairs(x, 2);
        Build.commit(x);
        due.is("each by its own calls", 63, x.restricted());
        x.run(300);
        Build.start(x, 1);
        twoPairs(x, 0);
        Build.commit(x);
        due.is("the other one runs", 63, x.restricted());
    }

    private static void callsOfOthersRestrictNothing(Due due) {
        for (int m = 0; m < 6; m++) {
            PatchedMachine x = new PatchedMachine();
            int callee = (m + 1) % 6;
            Build.method(x, m, 0, 0, 0, Build.op(Build.CALL, callee), RETURN);
            Build.constant(x, callee, 4);
            Build.commit(x);
            Build.start(x, m);
            Build.method(x, (m + 2) % 6, 2, 0, 3, Build.op(Build.NULL, 3), RETURN);
            Build.commit(x);
            due.is("method " + m + " calls none that has another head", 0, x.waiting());
        }
    }

    /** Methods 2 and 4 return what methods 3 and 5 take. */
    private static void twoPairs(PatchedMachine x, int type) {
        for (int m = 2; m <= 4; m += 2) {
            Build.method(x, m, 0, 0, type, Build.op(type == 0 ? Build.PUSH : Build.NULL, type), RETURN);
            Build.method(x, m + 1, 1, Build.locals(type), 0, Build.op(Build.PUSH, 7), RETURN);
        }
    }

    private static void onlyOtherLocalsChange(Due due) {
        PatchedMachine x = new PatchedMachine();
        Build.method(x, 0, 0, 0, 0, Build.op(Build.PUSH, 1), Build.op(Build.CALL, 1), RETURN);
        Build.method(x, 1, 1, Build.locals(0, 1, 2, 3), 0, Build.op(Build.LOAD, 0), RETURN);
        Build.commit(x);
        Build.start(x, 0);
        Build.method(x, 1, 1, Build.locals(0, 3, 0, 1), 0, Build.op(Build.PUSH, 9), RETURN);
        Build.commit(x);
        due.is("locals that are no parameters", 0, x.waiting());
        x.run(300);
        due.is("the new one was called", 9, x.result());
    }

    /** The second patch restricts by the codes of the first one, not by those that are present. */
    private static void restrictedByTheProgramBefore(Due due) {
        PatchedMachine x = running();
        Build.constant(x, 0, 9);
        Build.method(x, 1, 0, 0, 0, Build.op(Build.NEW, 2), Build.op(Build.NULL, 2), Build.op(Build.SAME, 2), RETURN);
        Build.commit(x);
        x.layout(2);
        Build.constant(x, 1, 1);
        Build.method(x, 2, 0, 0, 0, Build.op(Build.NEW, 2), Build.op(Build.NULL, 2), Build.op(Build.SAME, 2), RETURN);
        Build.commit(x);
        x.layout(2);
        Build.commit(x);
        due.is("the first's", 3, x.restricted());
        due.is("three wait", 3, x.waiting());
        x.run(2);
        due.is("all applied", 4, x.applied());
        Build.start(x, 2);
        x.layout(2);
        Build.method(x, 2, 0, 0, 0, Build.op(Build.PUSH, 3), RETURN);
        Build.commit(x);
        due.is("by NEW in the code before, not in the new one", 4, x.restricted());
        Build.method(x, 3, 0, 0, 0, Build.op(Build.NEW, 3), Build.op(Build.NULL, 3), Build.op(Build.SAME, 3), RETURN);
        Build.commit(x);
        x.layout(3);
        Build.commit(x);
        x.run(1);
        due.is("the first waits still", 4, x.restricted());
        x.run(300);
        due.is("all applied again", 7, x.applied());
        secondRestrictsByTheFirst(due);
    }

    private static void secondRestrictsByTheFirst(Due due) {
        PatchedMachine x = new PatchedMachine();
        Build.method(x, 0, 0, 0, 0, Build.op(Build.CALL, 1), Build.op(Build.CALL, 2), Build.op(Build.ADD), RETURN);
        Build.constant(x, 1, 1);
        Build.constant(x, 2, 2);
        Build.commit(x);
        Build.start(x, 0);
        x.run(1);
        Build.method(x, 1, 0, 0, 0, Build.op(Build.NEW, 3), Build.op(Build.NULL, 3), Build.op(Build.SAME, 3), RETURN);
        Build.method(x, 2, 0, 0, 0, Build.op(Build.NEW, 3), Build.op(Build.NULL, 3), Build.op(Build.SAME, 3), RETURN);
        Build.commit(x);
        x.layout(3);
        Build.constant(x, 0, 5);
        Build.commit(x);
        due.is("the first", 6, x.restricted());
        x.run(2);
        due.is("the second, by codes of the first", 7, x.restricted());
        due.is("one applied", 2, x.applied());
    }

    /** Method 0 makes an object of class 1 with 11, 22 and itself, calls method 1 with it, and returns that. */
    private static PatchedMachine withObject() {
        PatchedMachine x = new PatchedMachine();
        Build.fields(x, 1, new int[] {1, 0, -1}, new int[] {2, 0, -1}, new int[] {3, 1, -1});
        int[] load = Build.op(Build.LOAD, 0);
        Build.method(x, 2, 1, 1, 1, load, Build.op(Build.PUSH, 11), Build.op(Build.PUT, 1, 1),
                load, Build.op(Build.PUSH, 22), Build.op(Build.PUT, 1, 2), load, load, Build.op(Build.PUT, 1, 3),
                load, RETURN);
        Build.method(x, 3, 0, 0, 1, Build.op(Build.NEW, 1), RETURN);
        Build.method(x, 0, 0, 1, 0, Build.op(Build.CALL, 3), Build.op(Build.STORE, 0), load, Build.op(Build.CALL, 2),
                Build.op(Build.CALL, 1), RETURN);
        Build.method(x, 1, 1, 1, 0, load, Build.op(Build.GET, 1, 1), RETURN);
        Build.commit(x);
        Build.start(x, 0);
        // 1 + 2 of method 3, 1 + 1, then 1 + 11 of method 2.
        x.run(17);
        return x;
    }

    private static void movedObjects(Due due) {
        PatchedMachine x = withObject();
        due.is("before its call", 4, x.frame(0));
        due.is("one object", 1, x.objects());
        due.is("none moved", 0, x.moved());
        Build.fields(x, 1, new int[] {5, 0, -1}, new int[] {1, 0, 2}, new int[] {2, 0, 2}, new int[] {3, 1, 3});
        int[] load = Build.op(Build.LOAD, 0);
        Build.method(x, 1, 1, 1, 0, load, Build.op(Build.GET, 1, 5), Build.op(Build.OUT),
                load, Build.op(Build.GET, 1, 1), Build.op(Build.OUT), load, Build.op(Build.GET, 1, 2),
                Build.op(Build.OUT), load, Build.op(Build.GET, 1, 3), load, Build.op(Build.SAME, 1), RETURN);
        Build.commit(x);
        due.is("applied while method 0 holds it", 2, x.applied());
        due.is("one moved", 1, x.moved());
        due.is("one object still", 1, x.objects());
        due.is("a field more", 4, x.shape(1, -1));
        x.run(300);
        due.is("returned", 2, x.status());
        due.is("an object kept", 1, x.result());
        due.is("the same source twice", 22, x.output(0));
        due.is("a field from another name", 22, x.output(1));
        due.is("a field without source", 0, x.output(2));
    }

    private static void movedWhileFramesHoldThem(Due due) {
        PatchedMachine x = withObject();
        Build.fields(x, 1, new int[] {1, 0, 1}, new int[] {3, 1, -1}, new int[] {2, 0, 2});
        int[] load = Build.op(Build.LOAD, 0);
        Build.method(x, 1, 1, 1, 0, load, Build.op(Build.GET, 1, 1), Build.op(Build.OUT),
                load, Build.op(Build.GET, 1, 2), Build.op(Build.OUT), load, Build.op(Build.GET, 1, 3),
                Build.op(Build.NULL, 1), Build.op(Build.SAME, 1), RETURN);
        Build.commit(x);
        due.is("moved", 1, x.moved());
        x.run(300);
        due.is("an object field without source is null", 1, x.result());
        due.is("a field at another place", 22, x.output(0));
        due.is("a field at its place", 11, x.output(1));
        Build.fields(x, 1, new int[] {1, 0, 1}, new int[] {3, 1, -1}, new int[] {2, 0, 2});
        Build.commit(x);
        due.is("no object is left to move", 1, x.moved());
        due.is("none at all", 0, x.objects());
    }

    private static void movedByEachPatch(Due due) {
        PatchedMachine x = new PatchedMachine();
        int[] pair = {4, 0, -1};
        Build.fields(x, 1, pair);
        Build.fields(x, 2, pair);
        Build.method(x, 3, 0, 0, 1, Build.op(Build.NEW, 1), RETURN);
        Build.method(x, 4, 0, 0, 2, Build.op(Build.NEW, 2), RETURN);
        Build.method(x, 0, 0, Build.locals(1, 1, 2), 0, Build.op(Build.CALL, 3), Build.op(Build.STORE, 0),
                Build.op(Build.CALL, 3), Build.op(Build.STORE, 1), Build.op(Build.CALL, 4), Build.op(Build.STORE, 2),
                Build.op(Build.CALL, 4), Build.op(Build.STORE, 2), Build.op(Build.JUMP, 8));
        Build.commit(x);
        Build.start(x, 0);
        x.run(50);
        due.is("objects", 4, x.objects());
        Build.fields(x, 1, pair);
        Build.commit(x);
        due.is("two of class 1", 2, x.moved());
        due.is("one was not reached", 3, x.objects());
        Build.fields(x, 2, pair);
        Build.commit(x);
        due.is("one of class 2", 3, x.moved());
        Build.fields(x, 1, pair);
        Build.fields(x, 2, pair);
        Build.fields(x, 3, pair);
        Build.commit(x);
        due.is("all of them", 6, x.moved());
        Build.constant(x, 5, 1);
        Build.commit(x);
        due.is("a patch of methods alone", 6, x.moved());
        due.is("applied", 5, x.applied());
    }

    /** The second patch has a field without source where the first one had one with. */
    private static void movedTwice(Due due) {
        PatchedMachine x = withObject();
        int[] load = Build.op(Build.LOAD, 0);
        Build.fields(x, 1, new int[] {2, 0, 2}, new int[] {1, 0, 1}, new int[] {3, 1, 3}, new int[] {8, 1, 3});
        Build.commit(x);
        Build.fields(x, 1, new int[] {1, 0, 1}, new int[] {2, 0, -1}, new int[] {6, 1, -1}, new int[] {3, 1, 8});
        Build.method(x, 1, 1, 1, 0, load, Build.op(Build.GET, 1, 1), Build.op(Build.OUT),
                load, Build.op(Build.GET, 1, 2), Build.op(Build.OUT),
                load, Build.op(Build.GET, 1, 6), Build.op(Build.NULL, 1), Build.op(Build.SAME, 1), Build.op(Build.OUT),
                load, Build.op(Build.CALL, 4), RETURN);
        Build.method(x, 4, 1, 1, 0, load, Build.op(Build.GET, 1, 3), load, Build.op(Build.SAME, 1), RETURN);
        Build.commit(x);
        due.is("moved by both", 2, x.moved());
        x.run(300);
        due.is("an object over both patches", 1, x.result());
        due.is("null without source", 1, x.output(0));
        due.is("0 without source", 0, x.output(1));
        due.is("an int over both patches", 11, x.output(2));
    }

    private static void callsMeetTheNewMethod(Due due) {
        PatchedMachine x = new PatchedMachine();
        Build.method(x, 0, 0, 0, 0, Build.op(Build.CALL, 1), Build.op(Build.OUT), Build.op(Build.JUMP, 0));
        Build.constant(x, 1, 1);
        Build.commit(x);
        Build.start(x, 0);
        x.run(1);
        Build.constant(x, 1, 2);
        Build.commit(x);
        x.run(3);
        due.is("the frame had the old code", 1, x.output(0));
        due.is("then it was applied", 2, x.applied());
        x.run(5);
        due.is("the next call met the new code", 2, x.output(0));
        Build.constant(x, 1, 3);
        Build.commit(x);
        Build.constant(x, 1, 4);
        Build.commit(x);
        x.run(5);
        due.is("the latest of two", 4, x.output(0));
        due.is("numbers put out", 3, x.outputs());
    }
}
