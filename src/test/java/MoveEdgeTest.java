import java.util.Arrays;

/** PATCHES, to apply one: which objects get new fields, what these become, and how many are counted (promise 11). */
public final class MoveEdgeTest {
    private static final int[] RETURN = Build.op(Build.RETURN);
    private static final int[] LOAD = Build.op(Build.LOAD, 0);
    private static final int[] OUT = Build.op(Build.OUT);

    public static void main(String[] args) {
        Due due = new Due();
        everySourceForEveryField(due);
        fewerFields(due);
        theSameNameWithoutASource(due);
        objectsKeepTheirPlaces(due);
        objectFieldsWithoutASourceAreNull(due);
        otherClassesAreAsTheyWere(due);
        twoClassesInOnePatch(due);
        sourcesOverSeveralPatches(due);
        aFieldTakenAwayAndGivenAgain(due);
        sixteenAreMoved(due);
        noneAreMoved(due);
        whatIsTakenAwayIsNotMoved(due);
        aPatchThatWaitsMovesNothing(due);
        putBeforeAndBehind(due);
        due.end();
    }

    /** Method 1 puts out the fields of these names, the first one first. */
    private static void puttingOut(PatchedMachine x, int c, int... names) {
        x.head(1, 1, c, 0);
        for (int name : names) {
            x.code(1, Build.LOAD, 0, 0);
            x.code(1, Build.GET, c, name);
            x.code(1, Build.OUT, 0, 0);
        }
        x.code(1, Build.PUSH, 5, 0);
        x.code(1, Build.RETURN, 0, 0);
    }

    private static void everySourceForEveryField(Due due) {
        int[] names = {9, 2, 0, 3};
        for (int number = 0; number < 625; number++) {
            int[] sources = {number % 5, number / 5 % 5, number / 25 % 5, number / 125};
            PatchedMachine x = holding(1 + number % 3, sources, names);
            due.is("moved", 1, x.moved());
            due.is("objects", 1, x.objects());
            x.run(300);
            due.is("it returns", 5, x.result());
            for (int k = 0; k < 4; k++) {
                due.is("field " + names[k] + " from " + sources[k], 11 * sources[k], x.output(3 - k));
            }
        }
    }

    /**
     * Method 0 has on its stack an object of class c with 11, 22, 33 and 44 in fields 1 to 4, and is about to call
     * method 1 with it; then a patch has given the class fields of these names and sources, of which 0 is none, and
     * method 1 puts them out. The methods that made the object have let go of the old fields.
     */
    private static PatchedMachine holding(int c, int[] sources, int[] names) {
        PatchedMachine x = new PatchedMachine();
        Build.fields(x, c, new int[] {1, 0, -1}, new int[] {2, 0, -1}, new int[] {3, 0, -1}, new int[] {4, 0, -1});
        Build.method(x, 3, 0, c, c, Build.op(Build.NEW, c), Build.op(Build.STORE, 0),
                LOAD, Build.op(Build.PUSH, 11), Build.op(Build.PUT, c, 1),
                LOAD, Build.op(Build.PUSH, 22), Build.op(Build.PUT, c, 2), LOAD, Build.op(Build.CALL, 4), RETURN);
        Build.method(x, 4, 1, c, c, LOAD, Build.op(Build.PUSH, 33), Build.op(Build.PUT, c, 3),
                LOAD, Build.op(Build.PUSH, 44), Build.op(Build.PUT, c, 4), LOAD, RETURN);
        Build.method(x, 0, 0, c, 0, Build.op(Build.CALL, 3), Build.op(Build.CALL, 1), RETURN);
        Build.method(x, 1, 1, c, 0, Build.op(Build.PUSH, 1), RETURN);
        Build.commit(x);
        Build.start(x, 0);
        x.run(1 + 11 + 8);
        due(x.frame(0) == 1 && x.depth() == 1);
        x.layout(c);
        for (int k = 0; k < names.length; k++) {
            due(x.field(c, names[k], 0, sources[k] == 0 ? -1 : sources[k]));
        }
        Build.method(x, 3, 0, 0, c, Build.op(Build.NEW, c), RETURN);
        Build.method(x, 4, 1, c, c, LOAD, RETURN);
        puttingOut(x, c, names);
        Build.commit(x);
        due(x.waiting() == 0);
        return x;
    }

    private static void due(boolean stands) {
        if (!stands) {
            throw new IllegalStateException("the test's own machine is not as it was meant");
        }
    }

    private static void fewerFields(Due due) {
        for (int count = 0; count <= 3; count++) {
            int[] names = Arrays.copyOf(new int[] {4, 3, 2}, count);
            PatchedMachine x = holding(2, names, names);
            due.is("fields left", count, x.shape(2, -1));
            due.is("moved, also with no field", 1, x.moved());
            x.run(300);
            for (int k = 0; k < count; k++) {
                due.is("field " + names[k] + " of " + count, 11 * names[k], x.output(count - 1 - k));
            }
        }
    }

    private static void theSameNameWithoutASource(Due due) {
        PatchedMachine x = holding(3, new int[] {0, 2, 0, 0}, new int[] {1, 2, 3, 4});
        x.run(300);
        int[] want = {0, 0, 22, 0};
        for (int back = 0; back < 4; back++) {
            due.is("field " + (4 - back), want[back], x.output(back));
        }
    }

    /** A chain of two: its object fields change places and names, and still hold the same objects. */
    private static PatchedMachine withPair() {
        PatchedMachine x = new PatchedMachine();
        Build.fields(x, 1, new int[] {5, 1, -1}, new int[] {6, 2, -1}, new int[] {7, 0, -1});
        Build.method(x, 2, 0, 0, 1, Build.op(Build.NEW, 1), RETURN);
        Build.method(x, 5, 0, 0, 2, Build.op(Build.NEW, 2), RETURN);
        Build.method(x, 3, 2, Build.locals(1, 2), 1, LOAD, LOAD, Build.op(Build.PUT, 1, 5),
                LOAD, Build.op(Build.LOAD, 1), Build.op(Build.PUT, 1, 6),
                LOAD, Build.op(Build.PUSH, 70), Build.op(Build.PUT, 1, 7), LOAD, RETURN);
        Build.method(x, 0, 0, Build.locals(1, 2), 0, Build.op(Build.CALL, 5), Build.op(Build.STORE, 1),
                Build.op(Build.CALL, 2), Build.op(Build.LOAD, 1), Build.op(Build.CALL, 3), Build.op(Build.STORE, 0),
                LOAD, Build.op(Build.LOAD, 1), Build.op(Build.CALL, 1), RETURN);
        Build.method(x, 1, 2, Build.locals(1, 2), 0, Build.op(Build.PUSH, 1), RETURN);
        Build.commit(x);
        Build.start(x, 0);
        x.run(3 + 1 + 3 + 1 + 12 + 1 + 2);
        due(x.frame(0) == 8 && x.objects() == 2);
        return x;
    }

    /** Method 1 tells whether field a of its first object is that object, and field b its second object. */
    private static void telling(PatchedMachine x, int a, int b, int number) {
        Build.method(x, 3, 2, Build.locals(1, 2), 1, LOAD, RETURN);
        Build.method(x, 1, 2, Build.locals(1, 2), 0, LOAD, Build.op(Build.GET, 1, a), LOAD, Build.op(Build.SAME, 1),
                OUT, LOAD, Build.op(Build.GET, 1, b), Build.op(Build.LOAD, 1), Build.op(Build.SAME, 2), OUT,
                LOAD, Build.op(Build.GET, 1, number), RETURN);
        Build.commit(x);
        due(x.waiting() == 0);
    }

    private static void objectsKeepTheirPlaces(Due due) {
        PatchedMachine x = withPair();
        Build.fields(x, 1, new int[] {0, 0, 7}, new int[] {5, 2, 6}, new int[] {6, 1, 5}, new int[] {1, 2, 6});
        telling(x, 6, 1, 0);
        due.is("one of two moved", 1, x.moved());
        due.is("both are there", 2, x.objects());
        x.run(300);
        due.is("an int", 70, x.result());
        due.is("another object", 1, x.output(0));
        due.is("itself", 1, x.output(1));
    }

    private static void objectFieldsWithoutASourceAreNull(Due due) {
        PatchedMachine x = withPair();
        Build.fields(x, 1, new int[] {5, 1, -1}, new int[] {6, 2, -1}, new int[] {7, 0, -1});
        Build.method(x, 3, 2, Build.locals(1, 2), 1, LOAD, RETURN);
        Build.method(x, 1, 2, Build.locals(1, 2), 0, LOAD, Build.op(Build.GET, 1, 5), Build.op(Build.NULL, 1),
                Build.op(Build.SAME, 1), OUT, LOAD, Build.op(Build.GET, 1, 6), Build.op(Build.NULL, 2),
                Build.op(Build.SAME, 2), OUT, LOAD, Build.op(Build.GET, 1, 7), RETURN);
        Build.commit(x);
        due.is("applied at once", 2, x.applied());
        x.run(300);
        due.is("an int", 0, x.result());
        due.is("class 2", 1, x.output(0));
        due.is("class 1", 1, x.output(1));
    }

    private static void otherClassesAreAsTheyWere(Due due) {
        for (int touched = 1; touched <= 3; touched++) {
            PatchedMachine x = withPair();
            if (touched == 1) {
                Build.fields(x, 1, new int[] {5, 1, 5}, new int[] {6, 2, 6}, new int[] {7, 0, 7});
            } else {
                x.layout(touched);
                x.field(touched, 8, 0, -1);
            }
            telling(x, 5, 6, 7);
            due.is("moved by a patch of class " + touched, touched <= 2 ? 1 : 0, x.moved());
            due.is("objects", 2, x.objects());
            x.run(300);
            due.is("an int", 70, x.result());
            due.is("another object", 1, x.output(0));
            due.is("itself", 1, x.output(1));
        }
    }

    /** Objects of classes 1 and 2 in both orders: a field of one has a source where that of the other has none. */
    private static void twoClassesInOnePatch(Due due) {
        for (int first = 1; first <= 2; first++) {
            for (int withSource = 1; withSource <= 2; withSource++) {
                PatchedMachine x = twoObjects(first);
                for (int c = 1; c <= 2; c++) {
                    int from = c == withSource ? 1 : -1;
                    Build.fields(x, c, new int[] {1, 0, from}, new int[] {2, 0, -from});
                    Build.method(x, 2 + c, 0, 0, c, Build.op(Build.NEW, c), RETURN);
                }
                Build.method(x, 1, 2, Build.locals(1, 2), 0, LOAD, Build.op(Build.GET, 1, 1), OUT,
                        LOAD, Build.op(Build.GET, 1, 2), OUT, Build.op(Build.LOAD, 1), Build.op(Build.GET, 2, 1), OUT,
                        Build.op(Build.LOAD, 1), Build.op(Build.GET, 2, 2), RETURN);
                Build.commit(x);
                due.is("both are moved", 2, x.moved());
                x.run(300);
                int[] want = {withSource == 1 ? 70 : 0, withSource == 1 ? 0 : 70, withSource == 1 ? 0 : 80,
                    withSource == 1 ? 80 : 0};
                for (int k = 0; k < 3; k++) {
                    due.is("field " + k + ", source in class " + withSource, want[k], x.output(2 - k));
                }
                due.is("the last field", want[3], x.result());
            }
        }
    }

    /** Method 0 holds an object of class 1 with 70 and one of class 2 with 80, made in this order or the other one. */
    private static PatchedMachine twoObjects(int first) {
        PatchedMachine x = new PatchedMachine();
        for (int c = 1; c <= 2; c++) {
            Build.fields(x, c, new int[] {1, 0, -1});
            Build.method(x, 2 + c, 0, c, c, Build.op(Build.NEW, c), Build.op(Build.STORE, 0), LOAD,
                    Build.op(Build.PUSH, 60 + 10 * c), Build.op(Build.PUT, c, 1), LOAD, RETURN);
        }
        int second = 3 - first;
        Build.method(x, 1, 2, Build.locals(1, 2), 0, Build.op(Build.PUSH, 1), RETURN);
        Build.method(x, 0, 0, Build.locals(0, 1, 2), 0, Build.op(Build.CALL, 2 + first), Build.op(Build.STORE, first),
                Build.op(Build.CALL, 2 + second), Build.op(Build.STORE, second), Build.op(Build.LOAD, 1),
                Build.op(Build.LOAD, 2), Build.op(Build.CALL, 1), RETURN);
        Build.commit(x);
        Build.start(x, 0);
        x.run(2 * 9 + 2);
        due(x.frame(0) == 6 && x.objects() == 2);
        return x;
    }

    /**
     * Method 0 calls 5, which both patches wait for, and then method 1 with its object: both are applied behind one
     * step, and the second one's sources are fields of the first one.
     */
    private static void sourcesOverSeveralPatches(Due due) {
        PatchedMachine x = new PatchedMachine();
        Build.fields(x, 1, new int[] {1, 0, -1}, new int[] {2, 0, -1});
        Build.method(x, 2, 0, 1, 1, Build.op(Build.NEW, 1), Build.op(Build.STORE, 0),
                LOAD, Build.op(Build.PUSH, 11), Build.op(Build.PUT, 1, 1),
                LOAD, Build.op(Build.PUSH, 22), Build.op(Build.PUT, 1, 2), LOAD, RETURN);
        Build.constant(x, 5, 0);
        Build.method(x, 1, 1, 1, 0, Build.op(Build.PUSH, 1), RETURN);
        Build.method(x, 0, 0, 1, 0, Build.op(Build.CALL, 2), Build.op(Build.CALL, 5), OUT, Build.op(Build.CALL, 1),
                RETURN);
        Build.commit(x);
        Build.start(x, 0);
        x.run(1 + 10 + 1);
        due(x.frame(0) == 500);
        Build.method(x, 2, 0, 0, 1, Build.op(Build.NEW, 1), RETURN);
        Build.fields(x, 1, new int[] {1, 0, 2}, new int[] {2, 0, 1}, new int[] {3, 0, 2});
        Build.constant(x, 5, 0);
        Build.commit(x);
        Build.fields(x, 1, new int[] {9, 0, 3}, new int[] {3, 0, 1}, new int[] {1, 0, 2}, new int[] {2, 0, -1});
        puttingOut(x, 1, 9, 3, 1, 2);
        Build.commit(x);
        due.is("two wait", 2, x.waiting());
        due.is("none moved", 0, x.moved());
        due.is("the present form", 2, x.shape(1, -1));
        x.run(2);
        due.is("both applied", 3, x.applied());
        due.is("moved by each", 2, x.moved());
        due.is("the newest form", 4, x.shape(1, -1));
        x.run(300);
        int[] want = {0, 11, 22, 22};
        for (int back = 0; back < 4; back++) {
            due.is("field put out " + back + " before", want[back], x.output(back));
        }
    }

    /** What a patch has taken away does not come back with the name. */
    private static void aFieldTakenAwayAndGivenAgain(Due due) {
        PatchedMachine x = holding(1, new int[] {2}, new int[] {2});
        Build.fields(x, 1, new int[] {2, 0, 2}, new int[] {1, 0, -1}, new int[] {3, 0, -1}, new int[] {4, 0, -1});
        puttingOut(x, 1, 1, 2, 3, 4);
        Build.commit(x);
        due.is("moved twice", 2, x.moved());
        x.run(300);
        int[] want = {0, 0, 22, 0};
        for (int back = 0; back < 4; back++) {
            due.is("field " + (4 - back), want[back], x.output(back));
        }
    }

    /** A chain of sixteen, each with its number, made by methods that hold no frame when the patch comes. */
    private static void sixteenAreMoved(Due due) {
        PatchedMachine x = new PatchedMachine();
        Build.fields(x, 3, new int[] {1, 3, -1}, new int[] {2, 0, -1});
        Build.method(x, 2, 2, Build.locals(3, 0, 3), 3, Build.op(Build.NEW, 3), Build.op(Build.STORE, 2),
                Build.op(Build.LOAD, 2), LOAD, Build.op(Build.PUT, 3, 1),
                Build.op(Build.LOAD, 2), Build.op(Build.LOAD, 1), Build.op(Build.PUT, 3, 2),
                Build.op(Build.LOAD, 2), RETURN);
        Build.method(x, 0, 0, Build.locals(3, 0), 0, LOAD, Build.op(Build.LOAD, 1), Build.op(Build.CALL, 2),
                Build.op(Build.STORE, 0), Build.op(Build.LOAD, 1), Build.op(Build.PUSH, 1), Build.op(Build.ADD),
                Build.op(Build.STORE, 1), LOAD, Build.op(Build.CALL, 1), Build.op(Build.ZERO, 0),
                Build.op(Build.PUSH, 4), RETURN);
        Build.method(x, 1, 1, 3, 0, Build.op(Build.PUSH, 0), RETURN);
        Build.commit(x);
        Build.start(x, 0);
        x.run(300);
        x.run(16 * 23 - 4 - 300);
        due.is("before the sixteenth call of method 1", 9, x.frame(0));
        due.is("objects", 16, x.objects());
        Build.fields(x, 3, new int[] {7, 0, -1}, new int[] {8, 0, 2}, new int[] {9, 3, 1});
        Build.method(x, 2, 2, Build.locals(3, 0, 3), 3, Build.op(Build.NEW, 3), RETURN);
        Build.method(x, 1, 1, 3, 0, LOAD, Build.op(Build.GET, 3, 8), OUT, LOAD, Build.op(Build.GET, 3, 9),
                Build.op(Build.STORE, 0), LOAD, Build.op(Build.NULL, 3), Build.op(Build.SAME, 3),
                Build.op(Build.ZERO, 0), Build.op(Build.PUSH, 9), RETURN);
        Build.commit(x);
        due.is("sixteen moved", 16, x.moved());
        due.is("sixteen are there", 16, x.objects());
        x.run(300);
        due.is("the run returns", 4, x.result());
        due.is("sixteen numbers", 16, x.outputs());
        for (int back = 0; back < 16; back++) {
            due.is("number " + back, back, x.output(back));
        }
        due.is("sixteen are there still", 16, x.objects());
        x.layout(3);
        x.head(1, 1, 3, 0);
        x.head(0, 0, 0, 0);
        Build.commit(x);
        due.is("no frame holds them, none is moved", 16, x.moved());
        due.is("none is there", 0, x.objects());
    }

    private static void noneAreMoved(Due due) {
        PatchedMachine x = new PatchedMachine();
        for (int c = 1; c <= 3; c++) {
            x.layout(c);
            due.is("a patch of class " + c, 0, x.commit());
            due.is("no object, none moved", 0, x.moved());
        }
        due.is("applied", 3, x.applied());
    }

    /** Method 0 has made two objects by method 2, and holds the second one alone. */
    private static void whatIsTakenAwayIsNotMoved(Due due) {
        PatchedMachine x = new PatchedMachine();
        Build.method(x, 2, 0, 0, 1, Build.op(Build.NEW, 1), RETURN);
        Build.method(x, 0, 0, 1, 0, Build.op(Build.CALL, 2), Build.op(Build.STORE, 0), Build.op(Build.CALL, 2),
                Build.op(Build.STORE, 0), Build.op(Build.PUSH, 3), RETURN);
        Build.commit(x);
        Build.start(x, 0);
        x.run(8);
        due.is("two objects", 2, x.objects());
        x.layout(1);
        Build.commit(x);
        due.is("one is moved", 1, x.moved());
        due.is("the other one is gone", 1, x.objects());
        x.layout(1);
        x.layout(2);
        x.layout(3);
        Build.commit(x);
        due.is("moved again", 2, x.moved());
        x.layout(2);
        x.layout(3);
        Build.commit(x);
        due.is("other classes alone", 2, x.moved());
        due.is("applied", 4, x.applied());
    }

    private static void aPatchThatWaitsMovesNothing(Due due) {
        PatchedMachine x = new PatchedMachine();
        Build.fields(x, 1, new int[] {1, 0, -1});
        Build.method(x, 0, 0, 1, 0, Build.op(Build.NEW, 1), Build.op(Build.STORE, 0), LOAD, Build.op(Build.PUSH, 8),
                Build.op(Build.PUT, 1, 1), LOAD, Build.op(Build.GET, 1, 1), RETURN);
        Build.commit(x);
        Build.start(x, 0);
        x.run(2);
        Build.fields(x, 1, new int[] {2, 0, 1}, new int[] {1, 0, -1});
        Build.commit(x);
        due.is("waits", 1, x.waiting());
        due.is("none moved", 0, x.moved());
        due.is("the present form", 16, x.shape(1, 0));
        x.run(300);
        due.is("its fields were as they were", 8, x.result());
        due.is("none left to move", 0, x.moved());
        due.is("the new form", 32, x.shape(1, 0));
    }

    /** A value put before a patch is got behind it, and one put behind it is got too. */
    private static void putBeforeAndBehind(Due due) {
        PatchedMachine x = holding(1, new int[] {3, 4}, new int[] {6, 5});
        Build.method(x, 1, 1, 1, 0, LOAD, Build.op(Build.PUSH, 1000), Build.op(Build.PUT, 1, 5),
                LOAD, Build.op(Build.GET, 1, 6), LOAD, Build.op(Build.GET, 1, 5), Build.op(Build.ADD), RETURN);
        Build.commit(x);
        due.is("moved once", 1, x.moved());
        x.run(300);
        due.is("33 and 1000", 1033, x.result());
    }
}
