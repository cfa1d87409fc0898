/** Promise 7, what a commit refuses: each kind of bad place, the first of several, and what is just sound. */
public final class SoundTest {
    private static final int[] RETURN = Build.op(Build.RETURN);
    private static final int[] PUSH = Build.op(Build.PUSH, 1);

    public static void main(String[] args) {
        Due due = new Due();
        jumpsNeedAnEmptyStack(due);
        takingNeedsTheType(due);
        everyOpTakesItsTypes(due);
        seventhOnTheStack(due);
        endsNeedAnEmptyStack(due);
        jumpsNeedAPlace(due);
        fieldsNeedToBeThere(due);
        callsNeedADefinedMethod(due);
        theLastLeads(due);
        theFirstIsTold(due);
        whatIsLeftIsCheckedToo(due);
        refusedChangesNothing(due);
        due.end();
    }

    /** What commit answers to a draft of a new object that has method 0 with these locals, result and code. */
    private static int commitOf(int locals, int result, int[]... code) {
        PatchedMachine x = new PatchedMachine();
        Build.fields(x, 1, new int[] {3, 0, -1}, new int[] {4, 2, -1});
        Build.method(x, 0, 0, locals, result, code);
        Build.method(x, 1, 2, Build.locals(0, 2), 3, Build.op(Build.NULL, 3), RETURN);
        return x.commit();
    }

    private static int commitOf(int[]... code) {
        return commitOf(Build.locals(0, 1, 2, 3), 0, code);
    }

    private static void jumpsNeedAnEmptyStack(Due due) {
        due.is("JUMP into a filled stack", 2,
                commitOf(PUSH, RETURN, Build.op(Build.JUMP, 1)));
        due.is("ZERO into a filled stack", 4,
                commitOf(PUSH, Build.op(Build.ZERO, 3), PUSH, RETURN));
        due.is("ZERO into an empty stack", 0,
                commitOf(PUSH, Build.op(Build.ZERO, 2), PUSH, RETURN));
        due.is("JUMP at place 0 into a filled stack", 3,
                commitOf(Build.op(Build.JUMP, 2), PUSH, RETURN));
        due.is("JUMP to itself", 0, commitOf(Build.op(Build.JUMP, 0)));
        due.is("JUMP over what is not run", 0,
                commitOf(Build.op(Build.JUMP, 3), PUSH, RETURN, PUSH, RETURN));
        due.is("what is not run is looked at too", 2,
                commitOf(Build.op(Build.JUMP, 2), RETURN, PUSH, RETURN));
        due.is("PUSH that names the place with its number is no jump", 0,
                commitOf(PUSH, RETURN));
    }

    private static void takingNeedsTheType(Due due) {
        due.is("RETURN of nothing", 1, commitOf(RETURN));
        due.is("RETURN of an object", 2, commitOf(Build.op(Build.NULL, 1), RETURN));
        due.is("RETURN of an int", 2, commitOf(0, 1, PUSH, RETURN));
        due.is("RETURN of another class", 2, commitOf(0, 1, Build.op(Build.NULL, 2), RETURN));
        due.is("RETURN of the class", 0, commitOf(0, 1, Build.op(Build.NULL, 1), RETURN));
        due.is("STORE of nothing", 1, commitOf(Build.op(Build.STORE, 0), PUSH, RETURN));
        due.is("STORE of another type", 2,
                commitOf(PUSH, Build.op(Build.STORE, 1), PUSH, RETURN));
        due.is("STORE of the type", 0,
                commitOf(Build.op(Build.NULL, 1), Build.op(Build.STORE, 1), PUSH, RETURN));
        due.is("LOAD of a type", 2, commitOf(Build.op(Build.LOAD, 3), RETURN));
        due.is("NEW of a class", 0,
                commitOf(Build.op(Build.NEW, 3), Build.op(Build.STORE, 3), PUSH, RETURN));
        due.is("NEW of another class", 2,
                commitOf(Build.op(Build.NEW, 3), Build.op(Build.STORE, 2), PUSH, RETURN));
        due.is("ZERO of an object", 2,
                commitOf(Build.op(Build.NULL, 1), Build.op(Build.ZERO, 0), PUSH, RETURN));
        due.is("ZERO of nothing", 1, commitOf(Build.op(Build.ZERO, 0), PUSH, RETURN));
        due.is("OUT of nothing", 1, commitOf(Build.op(Build.OUT), PUSH, RETURN));
        due.is("OUT of an object", 2,
                commitOf(Build.op(Build.NULL, 1), Build.op(Build.OUT), PUSH, RETURN));
    }

    private static void everyOpTakesItsTypes(Due due) {
        int[] object = Build.op(Build.NULL, 1);
        for (int op = Build.ADD; op <= Build.LESS; op++) {
            int[] two = Build.op(op);
            due.is("op " + op + " of ints", 0, commitOf(PUSH, PUSH, two, RETURN));
            due.is("op " + op + " of one", 2, commitOf(PUSH, two, RETURN));
            due.is("op " + op + " of none", 1, commitOf(two, RETURN));
            due.is("op " + op + " with an upper object", 3, commitOf(PUSH, object, two, RETURN));
            due.is("op " + op + " with a lower object", 3, commitOf(object, PUSH, two, RETURN));
        }
        int[] same = Build.op(Build.SAME, 1);
        due.is("SAME of two", 0, commitOf(object, object, same, RETURN));
        due.is("SAME of one", 2, commitOf(object, same, RETURN));
        due.is("SAME with an upper int", 3, commitOf(object, PUSH, same, RETURN));
        due.is("SAME with a lower int", 3, commitOf(PUSH, object, same, RETURN));
        due.is("SAME of another class", 3, commitOf(object, object, Build.op(Build.SAME, 2), RETURN));
        int[] get = Build.op(Build.GET, 1, 3);
        due.is("GET of an int field", 0, commitOf(object, get, RETURN));
        due.is("GET of an object field", 3, commitOf(object, Build.op(Build.GET, 1, 4), RETURN));
        due.is("GET of nothing", 1, commitOf(get, RETURN));
        due.is("GET of an int", 2, commitOf(PUSH, get, RETURN));
        int[] put = Build.op(Build.PUT, 1, 3);
        due.is("PUT of an int", 0, commitOf(object, PUSH, put, PUSH, RETURN));
        due.is("PUT of an object", 3, commitOf(object, object, put, PUSH, RETURN));
        due.is("PUT the other way round", 3, commitOf(PUSH, object, put, PUSH, RETURN));
        due.is("PUT into another class", 3, commitOf(Build.op(Build.NULL, 2), PUSH, put, PUSH, RETURN));
        due.is("PUT of one", 2, commitOf(PUSH, put, PUSH, RETURN));
        callTakesItsParameters(due);
    }

    /** Method 1 takes an int and below the top an object of class 2, the last one first, and puts class 3. */
    private static void callTakesItsParameters(Due due) {
        int[] second = Build.op(Build.NULL, 2);
        int[] call = Build.op(Build.CALL, 1);
        int[] keep = Build.op(Build.STORE, 3);
        due.is("CALL with its parameters", 0, commitOf(PUSH, second, call, keep, PUSH, RETURN));
        due.is("CALL the other way round", 3, commitOf(second, PUSH, call, keep, PUSH, RETURN));
        due.is("CALL with one", 2, commitOf(second, call, keep, PUSH, RETURN));
        due.is("CALL with none", 1, commitOf(call, keep, PUSH, RETURN));
        due.is("CALL puts the result's type", 4, commitOf(PUSH, second, call, RETURN));
        due.is("CALL of itself", 0, commitOf(Build.op(Build.CALL, 0), RETURN));
    }

    private static void seventhOnTheStack(Due due) {
        int[] add = Build.op(Build.ADD);
        int[] call = Build.op(Build.CALL, 0);
        int[] object = Build.op(Build.NULL, 1);
        int[] get = Build.op(Build.GET, 1, 3);
        due.is("six", 0, commitOf(PUSH, PUSH, PUSH, PUSH, PUSH, PUSH, add, add, add, add, add, RETURN));
        due.is("a seventh", 7,
                commitOf(PUSH, PUSH, PUSH, PUSH, PUSH, PUSH, PUSH, add, add, add, add, add, add, RETURN));
        due.is("a seventh by CALL", 7,
                commitOf(PUSH, PUSH, PUSH, PUSH, PUSH, PUSH, call, add, add, add, add, add, add, RETURN));
        due.is("a seventh by LOAD", 7, commitOf(PUSH, PUSH, PUSH, PUSH, PUSH, PUSH, Build.op(Build.LOAD, 0), RETURN));
        due.is("a seventh by NEW", 7, commitOf(PUSH, PUSH, PUSH, PUSH, PUSH, PUSH, Build.op(Build.NEW, 1), RETURN));
        due.is("a seventh by NULL", 7, commitOf(PUSH, PUSH, PUSH, PUSH, PUSH, PUSH, object, RETURN));
        due.is("GET on six", 0,
                commitOf(PUSH, PUSH, PUSH, PUSH, PUSH, object, get, add, add, add, add, add, RETURN));
    }

    private static void endsNeedAnEmptyStack(Due due) {
        due.is("RETURN with one left", 3, commitOf(PUSH, PUSH, RETURN));
        due.is("JUMP with one left", 2, commitOf(PUSH, Build.op(Build.JUMP, 2), PUSH, RETURN));
        due.is("ZERO with one left", 3, commitOf(PUSH, PUSH, Build.op(Build.ZERO, 3), RETURN));
    }

    private static void jumpsNeedAPlace(Due due) {
        due.is("JUMP behind the code", 1, commitOf(Build.op(Build.JUMP, 1)));
        due.is("JUMP far behind the code", 1, commitOf(Build.op(Build.JUMP, 13)));
        due.is("ZERO behind the code", 2, commitOf(PUSH, Build.op(Build.ZERO, 4), PUSH, RETURN));
        due.is("ZERO to the last", 0, commitOf(PUSH, Build.op(Build.ZERO, 4), PUSH, RETURN, Build.op(Build.JUMP, 2)));
    }

    private static void fieldsNeedToBeThere(Due due) {
        due.is("GET of no field", 2, commitOf(Build.op(Build.NULL, 1), Build.op(Build.GET, 1, 5), RETURN));
        due.is("GET of another class's field", 2, commitOf(Build.op(Build.NULL, 2), Build.op(Build.GET, 2, 3), RETURN));
        due.is("PUT of no field", 3, commitOf(Build.op(Build.NULL, 1), PUSH, Build.op(Build.PUT, 1, 5), PUSH, RETURN));
    }

    private static void callsNeedADefinedMethod(Due due) {
        due.is("CALL of no method", 1, commitOf(Build.op(Build.CALL, 5), RETURN));
        PatchedMachine x = new PatchedMachine();
        x.head(2, 0, 0, 0);
        Build.method(x, 1, 0, 0, 0, Build.op(Build.CALL, 2), RETURN);
        due.is("CALL of a head", 101, x.commit());
        x.code(2, Build.CALL, 1, 0);
        x.code(2, Build.RETURN, 0, 0);
        due.is("CALL of a later method", 0, x.commit());
    }

    private static void theLastLeads(Due due) {
        due.is("PUSH last", 1, commitOf(PUSH));
        due.is("ZERO last", 2, commitOf(PUSH, Build.op(Build.ZERO, 0)));
        due.is("OUT last", 2, commitOf(PUSH, Build.op(Build.OUT)));
        due.is("RETURN last", 0, commitOf(PUSH, RETURN));
        due.is("JUMP last", 0, commitOf(PUSH, Build.op(Build.OUT), Build.op(Build.JUMP, 0)));
    }

    private static void theFirstIsTold(Due due) {
        PatchedMachine x = new PatchedMachine();
        int[] out = Build.op(Build.OUT);
        Build.method(x, 5, 0, 0, 0, PUSH, PUSH, PUSH, PUSH, PUSH, PUSH, PUSH, PUSH, RETURN);
        due.is("of method 5", 507, x.commit());
        Build.method(x, 5, 0, 0, 0,
                PUSH, out, PUSH, out, PUSH, out, PUSH, out, PUSH, out, PUSH, out, PUSH, out);
        due.is("of the last place", 514, x.commit());
        Build.method(x, 3, 0, 0, 0, PUSH, RETURN, RETURN, PUSH);
        due.is("of the lesser method", 303, x.commit());
        Build.method(x, 3, 0, 0, 0, PUSH, RETURN);
        due.is("mended there", 514, x.commit());
        due.is("the place of a jump before the place that it names", 1,
                commitOf(Build.op(Build.JUMP, 13), PUSH, PUSH, RETURN));
        due.is("the place that is named before the jump", 2,
                commitOf(PUSH, RETURN, PUSH, Build.op(Build.ZERO, 1), RETURN));
    }

    private static void whatIsLeftIsCheckedToo(Due due) {
        PatchedMachine x = new PatchedMachine();
        Build.fields(x, 1, new int[] {3, 0, -1});
        Build.method(x, 2, 0, 0, 0, Build.op(Build.NULL, 1), Build.op(Build.GET, 1, 3), RETURN);
        Build.method(x, 4, 0, 0, 0, Build.op(Build.CALL, 2), RETURN);
        Build.commit(x);
        x.layout(1);
        due.is("a field taken away", 202, x.commit());
        x.field(1, 3, 1, -1);
        due.is("a field of another type", 203, x.commit());
        x.drop();
        x.head(2, 0, 0, 0);
        due.is("a method taken away", 401, x.commit());
        x.head(2, 0, 0, 1);
        x.code(2, Build.NULL, 1, 0);
        x.code(2, Build.RETURN, 0, 0);
        due.is("another result", 402, x.commit());
        x.drop();
        x.head(4, 0, 0, 0);
        due.is("a method that is not called", 0, x.commit());
    }

    private static void refusedChangesNothing(Due due) {
        PatchedMachine x = new PatchedMachine();
        x.layout(1);
        x.head(0, 0, 0, 0);
        x.code(0, Build.PUSH, 8, 0);
        due.is("not sound", 1, x.commit());
        due.is("still not sound", 1, x.commit());
        due.is("nothing applied", 0, x.applied());
        due.is("nothing waits", 0, x.waiting());
        due.is("not the present program", false, x.start(0));
        due.is("the draft takes fields", true, x.field(1, 0, 0, -1));
        due.is("the draft takes code", true, x.code(0, Build.RETURN, 0, 0));
        due.is("sound now", 0, x.commit());
        due.is("applied", 1, x.applied());
        Build.start(x, 0);
        x.run(2);
        due.is("the code given before counts", 8, x.result());
    }
}
