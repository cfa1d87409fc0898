/** Promise 18: how many objects there are, when a collection is made, and what it takes away. */
public final class CollectionTest {
    private static final int[] RETURN = Build.op(Build.RETURN);

    public static void main(String[] args) {
        Due due = new Due();
        newCollectsAtSixteen(due);
        fullWhenAllAreReached(due);
        stacksAndLowerFramesReach(due);
        ringsAreTakenAway(due);
        everyPatchCollects(due);
        intsReachNothing(due);
        rowsUsedAgainAreClear(due);
        everyFieldReaches(due);
        whatWasTakenReachesNothing(due);
        due.end();
    }

    private static void newCollectsAtSixteen(Due due) {
        PatchedMachine x = new PatchedMachine();
        Build.method(x, 0, 0, Build.locals(2), 0, Build.op(Build.NEW, 2), Build.op(Build.STORE, 0),
                Build.op(Build.JUMP, 0));
        Build.commit(x);
        Build.start(x, 0);
        for (int i = 1; i <= 16; i++) {
            x.run(3);
            due.is("objects behind " + i, i, x.objects());
        }
        x.run(1);
        due.is("one reached, one new", 2, x.objects());
        x.run(2);
        x.run(14 * 3);
        due.is("sixteen again", 16, x.objects());
        x.run(1);
        due.is("collected again", 2, x.objects());
        due.is("goes on", 1, x.status());
    }

    /** Method 0 makes a chain: each new object holds the one before. */
    private static void chain(PatchedMachine x) {
        Build.fields(x, 1, new int[] {0, 1, -1});
        Build.method(x, 0, 0, Build.locals(1, 1), 0, Build.op(Build.NEW, 1), Build.op(Build.STORE, 1),
                Build.op(Build.LOAD, 1), Build.op(Build.LOAD, 0), Build.op(Build.PUT, 1, 0),
                Build.op(Build.LOAD, 1), Build.op(Build.STORE, 0), Build.op(Build.JUMP, 0));
    }

    private static void fullWhenAllAreReached(Due due) {
        PatchedMachine x = new PatchedMachine();
        chain(x);
        Build.constant(x, 1, 4);
        Build.commit(x);
        Build.start(x, 0);
        due.is("sixteen rounds", 128, x.run(128));
        due.is("sixteen objects", 16, x.objects());
        due.is("still going on", 1, x.status());
        due.is("the seventeenth", 1, x.run(300));
        due.is("FULL", 4, x.status());
        due.is("no frame", 0, x.depth());
        due.is("no result", 0, x.result());
        due.is("the end collects nothing", 16, x.objects());
        Build.start(x, 1);
        x.run(300);
        due.is("nor does another run", 16, x.objects());
        Build.start(x, 0);
        x.run(1);
        due.is("but its NEW does", 1, x.objects());
    }

    /** Method 0 calls itself with two objects on its stack and one in a local. */
    private static void stacksAndLowerFramesReach(Due due) {
        PatchedMachine x = new PatchedMachine();
        Build.method(x, 0, 0, Build.locals(0, 0, 0, 3), 0, Build.op(Build.NEW, 3), Build.op(Build.STORE, 3),
                Build.op(Build.NEW, 1), Build.op(Build.NEW, 1), Build.op(Build.CALL, 0), Build.op(Build.OUT),
                Build.op(Build.SAME, 1), RETURN);
        Build.constant(x, 5, 0);
        Build.commit(x);
        Build.start(x, 0);
        x.run(5 * 4);
        due.is("three of each frame", 12, x.objects());
        Build.constant(x, 5, 1);
        Build.commit(x);
        due.is("all are reached", 12, x.objects());
        x.run(5);
        x.run(1);
        due.is("sixteen", 16, x.objects());
        due.is("a seventeenth", 2, x.run(300));
        due.is("FULL", 4, x.status());
        parametersAreReached(due);
    }

    private static void parametersAreReached(Due due) {
        PatchedMachine x = new PatchedMachine();
        Build.method(x, 0, 0, 0, 0, Build.op(Build.NEW, 1), Build.op(Build.NEW, 2), Build.op(Build.CALL, 1), RETURN);
        Build.method(x, 1, 2, Build.locals(1, 2), 0, Build.op(Build.NULL, 2), Build.op(Build.STORE, 1),
                Build.op(Build.PUSH, 1), RETURN);
        Build.constant(x, 5, 0);
        Build.commit(x);
        Build.start(x, 0);
        x.run(3);
        Build.constant(x, 5, 0);
        Build.commit(x);
        due.is("both parameters", 2, x.objects());
        x.run(2);
        due.is("not collected yet", 2, x.objects());
        Build.constant(x, 5, 0);
        Build.commit(x);
        due.is("one was let go", 1, x.objects());
    }

    /** Method 0 makes two objects that hold each other, and lets them go. */
    private static void ringsAreTakenAway(Due due) {
        PatchedMachine x = new PatchedMachine();
        Build.fields(x, 1, new int[] {0, 0, -1}, new int[] {9, 1, -1});
        Build.method(x, 0, 0, Build.locals(1, 1), 0, Build.op(Build.NEW, 1), Build.op(Build.STORE, 0),
                Build.op(Build.NEW, 1), Build.op(Build.STORE, 1),
                Build.op(Build.LOAD, 0), Build.op(Build.LOAD, 1), Build.op(Build.PUT, 1, 9),
                Build.op(Build.LOAD, 1), Build.op(Build.LOAD, 0), Build.op(Build.PUT, 1, 9),
                Build.op(Build.NULL, 1), Build.op(Build.STORE, 1), Build.op(Build.CALL, 1), RETURN);
        Build.method(x, 1, 0, 0, 0, Build.op(Build.PUSH, 1), RETURN);
        Build.constant(x, 5, 0);
        Build.commit(x);
        Build.start(x, 0);
        x.run(12);
        Build.constant(x, 5, 0);
        Build.commit(x);
        due.is("one holds the other", 2, x.objects());
        x.run(300);
        due.is("the end collects nothing", 2, x.objects());
        Build.constant(x, 5, 0);
        Build.commit(x);
        due.is("a ring that nothing holds", 0, x.objects());
    }

    private static void everyPatchCollects(Due due) {
        PatchedMachine x = new PatchedMachine();
        Build.method(x, 0, 0, 0, 0, Build.op(Build.NEW, 1), Build.op(Build.NULL, 1), Build.op(Build.SAME, 1), RETURN);
        Build.commit(x);
        Build.start(x, 0);
        x.run(3);
        due.is("an object let go", 1, x.objects());
        Build.constant(x, 0, 1);
        Build.commit(x);
        due.is("a patch that waits collects nothing", 1, x.objects());
        due.is("it waits", 1, x.waiting());
        x.run(1);
        due.is("applied, it does", 0, x.objects());
        collectedBeforeFieldsAreLost(due);
    }

    /** An object that only a field without source held is still there when it is moved. */
    private static void collectedBeforeFieldsAreLost(Due due) {
        PatchedMachine x = new PatchedMachine();
        chain(x);
        Build.commit(x);
        Build.method(x, 1, 0, 0, 1, Build.op(Build.NEW, 1), RETURN);
        Build.method(x, 2, 2, Build.locals(1, 1), 1, Build.op(Build.LOAD, 0), Build.op(Build.LOAD, 1),
                Build.op(Build.PUT, 1, 0), Build.op(Build.LOAD, 0), RETURN);
        Build.method(x, 0, 0, Build.locals(1), 0, Build.op(Build.CALL, 1), Build.op(Build.CALL, 1),
                Build.op(Build.CALL, 2), Build.op(Build.STORE, 0), Build.op(Build.JUMP, 4));
        Build.commit(x);
        Build.start(x, 0);
        x.run(100);
        due.is("two objects", 2, x.objects());
        Build.fields(x, 1, new int[] {0, 1, -1});
        Build.commit(x);
        due.is("both are moved", 2, x.moved());
        due.is("both are there", 2, x.objects());
        Build.constant(x, 5, 1);
        Build.commit(x);
        due.is("the next patch takes one away", 1, x.objects());
    }

    private static void intsReachNothing(Due due) {
        PatchedMachine x = new PatchedMachine();
        Build.fields(x, 1, new int[] {0, 0, -1});
        Build.method(x, 0, 0, Build.locals(0, 1, 2), 0, Build.op(Build.PUSH, 1), Build.op(Build.STORE, 0),
                Build.op(Build.NEW, 2), Build.op(Build.STORE, 2), Build.op(Build.NEW, 1), Build.op(Build.STORE, 1),
                Build.op(Build.LOAD, 1), Build.op(Build.PUSH, 1), Build.op(Build.PUT, 1, 0),
                Build.op(Build.NULL, 2), Build.op(Build.STORE, 2),
                Build.op(Build.PUSH, 1), Build.op(Build.CALL, 1), RETURN);
        Build.method(x, 1, 1, 0, 0, Build.op(Build.PUSH, 1), RETURN);
        Build.constant(x, 5, 1);
        Build.commit(x);
        Build.start(x, 0);
        x.run(13);
        due.is("two made", 2, x.objects());
        Build.constant(x, 5, 1);
        Build.commit(x);
        due.is("locals, fields and parameters that are 1 hold none", 1, x.objects());
        x.run(1);
        Build.constant(x, 5, 1);
        Build.commit(x);
        due.is("nor does a stack", 1, x.objects());
    }

    private static void rowsUsedAgainAreClear(Due due) {
        PatchedMachine x = new PatchedMachine();
        Build.fields(x, 1, new int[] {0, 0, -1}, new int[] {1, 1, -1});
        int[] load = Build.op(Build.LOAD, 0);
        Build.method(x, 0, 0, Build.locals(1), 0, Build.op(Build.NEW, 1), Build.op(Build.STORE, 0),
                load, Build.op(Build.GET, 1, 0), Build.op(Build.OUT),
                load, Build.op(Build.PUSH, 5), Build.op(Build.PUT, 1, 0), load, load, Build.op(Build.PUT, 1, 1),
                Build.op(Build.JUMP, 0));
        Build.commit(x);
        Build.start(x, 0);
        x.run(300);
        x.run(300);
        due.is("numbers", 50, x.outputs());
        for (int back = 0; back < 16; back++) {
            due.is("a new object's field, " + back + " back", 0, x.output(back));
        }
    }

    /** An object holds another one by its field 0, 1, 2 or 3. */
    private static void everyFieldReaches(Due due) {
        for (int k = 0; k < 4; k++) {
            PatchedMachine x = new PatchedMachine();
            x.layout(1);
            for (int i = 0; i < 4; i++) {
                x.field(1, 9 - i, i == k ? 3 : 0, -1);
            }
            Build.method(x, 0, 0, Build.locals(1), 0, Build.op(Build.NEW, 1), Build.op(Build.STORE, 0),
                    Build.op(Build.LOAD, 0), Build.op(Build.NEW, 3), Build.op(Build.PUT, 1, 9 - k),
                    Build.op(Build.PUSH, 0), Build.op(Build.OUT), Build.op(Build.NEW, 3), Build.op(Build.NULL, 3),
                    Build.op(Build.SAME, 3), RETURN);
            Build.constant(x, 5, 1);
            Build.commit(x);
            Build.start(x, 0);
            x.run(10);
            due.is("three were made", 3, x.objects());
            Build.constant(x, 5, 1);
            Build.commit(x);
            due.is("field " + k + " holds one", 2, x.objects());
        }
    }

    /** The value above the stack's top is the object that was let go. */
    private static void whatWasTakenReachesNothing(Due due) {
        PatchedMachine x = new PatchedMachine();
        Build.method(x, 0, 0, Build.locals(1), 0, Build.op(Build.PUSH, 7), Build.op(Build.NEW, 1),
                Build.op(Build.STORE, 0), Build.op(Build.OUT), Build.op(Build.NULL, 1), Build.op(Build.STORE, 0),
                Build.op(Build.PUSH, 7), RETURN);
        Build.constant(x, 5, 1);
        Build.commit(x);
        Build.start(x, 0);
        x.run(7);
        due.is("one was made", 1, x.objects());
        Build.constant(x, 5, 1);
        Build.commit(x);
        due.is("it was let go", 0, x.objects());
    }
}
