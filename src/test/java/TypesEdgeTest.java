/** TYPES, and the ranges of promises 2 to 5: the last value that is allowed, and the first one that is refused. */
public final class TypesEdgeTest {
    private static final int LEAST = Integer.MIN_VALUE;
    private static final int MOST = Integer.MAX_VALUE;
    private static final int[] RETURN = Build.op(Build.RETURN);

    public static void main(String[] args) {
        Due due = new Due();
        atFirstNoClassHasAField(due);
        atFirstNoMethodIsDefined(due);
        thereAreThreeClasses(due);
        everyClassTakesFourFields(due);
        namesAreZeroToNine(due);
        namesDifferWithinAClass(due);
        typesAreZeroToThree(due);
        sourcesAreMinusOneOrAField(due);
        everyMethodCanBeDefined(due);
        parametersAreZeroToThree(due);
        parametersAreTheFirstLocals(due);
        localsAreFourTypes(due);
        resultsAreZeroToThree(due);
        aCodeOfNone(due);
        aCodeOfOne(due);
        aCodeOfFourteen(due);
        due.end();
    }

    private static void atFirstNoClassHasAField(Due due) {
        for (int c = 1; c <= 3; c++) {
            for (int name = 0; name <= 9; name++) {
                PatchedMachine x = new PatchedMachine();
                due.is("shape(" + c + ", -1) at first", 0, x.shape(c, -1));
                Build.method(x, 0, 0, 0, 0, Build.op(Build.NULL, c), Build.op(Build.GET, c, name), RETURN);
                due.is("GET of field " + name + " of class " + c + " at first", 2, x.commit());
                x.layout(c);
                due.is("a source named " + name + " at first", false, x.field(c, name, 0, name));
            }
        }
    }

    private static void atFirstNoMethodIsDefined(Due due) {
        for (int m = 0; m <= 5; m++) {
            PatchedMachine x = new PatchedMachine();
            due.is("start(" + m + ") at first", false, x.start(m));
            int caller = (m + 1) % 6;
            Build.method(x, caller, 0, 0, 0, Build.op(Build.CALL, m), RETURN);
            due.is("CALL of method " + m + " at first", 1 + 100 * caller, x.commit());
        }
    }

    /** All three classes are open for fields, so that only the number of the class can be wrong. */
    private static void thereAreThreeClasses(Due due) {
        PatchedMachine x = new PatchedMachine();
        for (int c = 1; c <= 3; c++) {
            due.is("layout(" + c + ")", true, x.layout(c));
        }
        for (int c : new int[] {LEAST, LEAST + 1, -31, -3, -1, 0, 4, 5, 6, 33, 34, 35, 65, 257, 65537, MOST}) {
            due.is("layout(" + c + ")", false, x.layout(c));
            due.is("field of class " + c, false, x.field(c, 1, 0, -1));
            due.is("shape(" + c + ", -1)", -1, x.shape(c, -1));
            due.is("shape(" + c + ", 0)", -1, x.shape(c, 0));
        }
        for (int c = 1; c <= 3; c++) {
            due.is("field of class " + c, true, x.field(c, 1, 0, -1));
        }
        Build.commit(x);
        for (int c : new int[] {LEAST, LEAST + 1, -31, -3, -1, 0, 4, 5, 6, 33, 34, 35, 65, 257, 65537, MOST}) {
            due.is("shape(" + c + ", -1) when all have fields", -1, x.shape(c, -1));
            due.is("shape(" + c + ", 0) when all have fields", -1, x.shape(c, 0));
        }
    }

    private static void everyClassTakesFourFields(Due due) {
        for (int c = 1; c <= 3; c++) {
            PatchedMachine x = new PatchedMachine();
            x.layout(c);
            for (int k = 0; k < 4; k++) {
                due.is("field " + k + " of class " + c, true, x.field(c, 2 * k, k, -1));
            }
            for (int name = 0; name <= 9; name++) {
                due.is("a fifth of class " + c + ", named " + name, false, x.field(c, name, 0, -1));
            }
            Build.commit(x);
            due.is("fields of class " + c, 4, x.shape(c, -1));
            for (int k = 0; k < 4; k++) {
                due.is("field " + k + " of class " + c + " is kept", 32 * k + k, x.shape(c, k));
            }
            due.is("there is no fifth", -1, x.shape(c, 4));
            x.layout(c);
            due.is("new fields, also with a source, begin at none", true, x.field(c, 9, 0, 0));
        }
    }

    private static void namesAreZeroToNine(Due due) {
        for (int name = 0; name <= 9; name++) {
            PatchedMachine x = new PatchedMachine();
            x.layout(2);
            due.is("a field named " + name, true, x.field(2, name, 1, -1));
            Build.commit(x);
            due.is("its name and type", 16 * name + 1, x.shape(2, 0));
        }
        for (int name : new int[] {LEAST, -2, -1, 10, 11, 16, 256, 65536, MOST}) {
            PatchedMachine x = new PatchedMachine();
            x.layout(2);
            due.is("a field named " + name, false, x.field(2, name, 1, -1));
            Build.commit(x);
            due.is("it is not there", 0, x.shape(2, -1));
        }
    }

    private static void namesDifferWithinAClass(Due due) {
        PatchedMachine x = new PatchedMachine();
        x.layout(1);
        x.layout(2);
        for (int name = 0; name < 4; name++) {
            due.is("a name that is free", true, x.field(1, name, 0, -1));
            for (int taken = 0; taken <= name; taken++) {
                due.is(taken + " again behind " + name, false, x.field(1, taken, 0, -1));
                due.is(taken + " again with another type", false, x.field(1, taken, 3, -1));
            }
            due.is("the name in another class", true, x.field(2, name, 0, -1));
        }
        Build.commit(x);
        x.layout(1);
        due.is("the name that the newest has", true, x.field(1, 0, 0, -1));
        due.is("the draft has it now", false, x.field(1, 0, 0, 0));
        x.layout(1);
        due.is("free again by another layout", true, x.field(1, 0, 2, -1));
    }

    private static void typesAreZeroToThree(Due due) {
        for (int c = 1; c <= 3; c++) {
            for (int type = 0; type <= 3; type++) {
                PatchedMachine x = new PatchedMachine();
                x.layout(c);
                due.is("a field of type " + type, true, x.field(c, 7, type, -1));
                Build.commit(x);
                due.is("its type", 112 + type, x.shape(c, 0));
            }
            for (int type : new int[] {LEAST, -1, 4, 256, MOST}) {
                PatchedMachine x = new PatchedMachine();
                x.layout(c);
                due.is("a field of type " + type, false, x.field(c, 7, type, -1));
                due.is("its name is still free", true, x.field(c, 7, 0, -1));
            }
        }
    }

    /** Class 1 of the newest program has names 0, 3, 6 and 9 of types 0 to 3. */
    private static void sourcesAreMinusOneOrAField(Due due) {
        for (int type = 0; type <= 3; type++) {
            for (int from = -2; from <= 10; from++) {
                PatchedMachine x = new PatchedMachine();
                Build.fields(x, 1, new int[] {0, 0, -1}, new int[] {3, 1, -1}, new int[] {6, 2, -1},
                        new int[] {9, 3, -1});
                Build.commit(x);
                x.layout(1);
                x.layout(2);
                boolean isSource = from == -1 || from == 3 * type;
                due.is("type " + type + " from " + from, isSource, x.field(1, 5, type, from));
                due.is("name 5 is free", !isSource, x.field(1, 5, 0, -1));
                due.is("of a class without fields, from " + from, from == -1, x.field(2, 5, type, from));
            }
        }
        for (int from : new int[] {LEAST, LEAST + 3, 16, 256, 259, MOST}) {
            PatchedMachine x = new PatchedMachine();
            Build.fields(x, 1, new int[] {3, 0, -1});
            Build.commit(x);
            x.layout(1);
            due.is("from " + from, false, x.field(1, 3, 0, from));
        }
    }

    private static void everyMethodCanBeDefined(Due due) {
        PatchedMachine x = new PatchedMachine();
        for (int m = 0; m <= 5; m++) {
            due.is("head(" + m + ")", true, x.head(m, 0, 0, 0));
            due.is("code of " + m, true, x.code(m, Build.PUSH, 10 * m - 7, 0));
            due.is("more code of " + m, true, x.code(m, Build.RETURN, 0, 0));
        }
        for (int m : new int[] {LEAST, -32, -1, 6, 7, 32, 37, 256, MOST}) {
            due.is("head(" + m + ")", false, x.head(m, 0, 0, 0));
            due.is("code of " + m, false, x.code(m, Build.PUSH, 0, 0));
            due.is("start(" + m + ")", false, x.start(m));
        }
        Build.commit(x);
        for (int m = 0; m <= 5; m++) {
            due.is("start(" + m + ")", true, x.start(m));
            due.is("frame of " + m, 100 * m, x.frame(0));
            due.is("steps of " + m, 2, x.run(300));
            due.is("result of " + m, 10 * m - 7, x.result());
        }
        for (int m : new int[] {LEAST, -32, -1, 6, 7, 32, 37, 256, MOST}) {
            due.is("start(" + m + ") of a full program", false, x.start(m));
        }
    }

    private static void parametersAreZeroToThree(Due due) {
        int[] add = Build.op(Build.ADD);
        int[] want = {0, 500, 560, 567};
        for (int parameters = 0; parameters <= 3; parameters++) {
            PatchedMachine x = new PatchedMachine();
            due.is(parameters + " parameters", true, x.head(1, parameters, 0, 0));
            Build.method(x, 1, parameters, 0, 0, Build.op(Build.LOAD, 0), Build.op(Build.LOAD, 1), add,
                    Build.op(Build.LOAD, 2), add, Build.op(Build.LOAD, 3), add, RETURN);
            x.head(0, 0, 0, 0);
            int[] numbers = {500, 60, 7};
            for (int i = 0; i < parameters; i++) {
                x.code(0, Build.PUSH, numbers[i], 0);
            }
            x.code(0, Build.CALL, 1, 0);
            x.code(0, Build.RETURN, 0, 0);
            Build.commit(x);
            due.is("start with " + parameters + " parameters", parameters == 0, x.start(1));
            if (parameters == 0) {
                x.run(300);
            }
            Build.start(x, 0);
            x.run(300);
            due.is("the sum of " + parameters, want[parameters], x.result());
        }
        for (int parameters : new int[] {LEAST, -1, 4, 5, 256, MOST}) {
            PatchedMachine x = new PatchedMachine();
            due.is(parameters + " parameters", false, x.head(1, parameters, 0, 0));
            due.is("no head was given", false, x.code(1, Build.PUSH, 0, 0));
        }
    }

    /** A callee whose locals are of types 1, 0, 3, 2 takes as many of them as it has parameters, in this order. */
    private static void parametersAreTheFirstLocals(Due due) {
        int[] types = {1, 0, 3, 2};
        for (int parameters = 0; parameters <= 3; parameters++) {
            for (int wrong = -1; wrong < parameters; wrong++) {
                PatchedMachine x = new PatchedMachine();
                Build.method(x, 1, parameters, Build.locals(types), 0, Build.op(Build.PUSH, 4), RETURN);
                x.head(0, 0, 0, 0);
                for (int i = 0; i < parameters; i++) {
                    int type = i == wrong ? 3 - types[i] : types[i];
                    x.code(0, type == 0 ? Build.PUSH : Build.NULL, type, 0);
                }
                x.code(0, Build.CALL, 1, 0);
                x.code(0, Build.RETURN, 0, 0);
                due.is("of " + parameters + " parameters number " + wrong + " is wrong",
                        wrong < 0 ? 0 : 1 + parameters, x.commit());
            }
        }
    }

    private static void localsAreFourTypes(Due due) {
        for (int packed = 0; packed <= 255; packed++) {
            int[] types = {packed % 4, packed / 4 % 4, packed / 16 % 4, packed / 64};
            for (int local = 0; local < 4; local++) {
                for (int result = 0; result <= 3; result++) {
                    PatchedMachine x = new PatchedMachine();
                    due.is("locals " + packed, true, x.head(0, 0, packed, result));
                    x.code(0, Build.LOAD, local, 0);
                    x.code(0, Build.RETURN, 0, 0);
                    due.is("local " + local + " of " + packed + " as " + result,
                            types[local] == result ? 0 : 2, x.commit());
                }
            }
        }
        for (int packed : new int[] {LEAST, -256, -1, 256, 257, 511, 65536, MOST}) {
            PatchedMachine x = new PatchedMachine();
            due.is("locals " + packed, false, x.head(0, 0, packed, 0));
            due.is("no head was given", false, x.code(0, Build.PUSH, 0, 0));
        }
    }

    private static void resultsAreZeroToThree(Due due) {
        for (int result = 0; result <= 3; result++) {
            PatchedMachine x = new PatchedMachine();
            due.is("result " + result, true, x.head(4, 0, 0, result));
            x.code(4, result == 0 ? Build.PUSH : Build.NULL, result, 0);
            x.code(4, Build.RETURN, 0, 0);
            due.is("commit of result " + result, 0, x.commit());
            due.is("start of result " + result, result == 0, x.start(4));
        }
        for (int result : new int[] {LEAST, -1, 4, 5, 256, MOST}) {
            PatchedMachine x = new PatchedMachine();
            due.is("result " + result, false, x.head(4, 0, 0, result));
            due.is("no head was given", false, x.code(4, Build.PUSH, 0, 0));
        }
    }

    private static void aCodeOfNone(Due due) {
        for (int m = 0; m <= 5; m++) {
            PatchedMachine x = new PatchedMachine();
            x.head(m, 0, 0, 0);
            due.is("a head alone is sound", 0, x.commit());
            due.is("and applied", 1, x.applied());
            due.is("but not defined", false, x.start(m));
            due.is("nor open for code", false, x.code(m, Build.PUSH, 0, 0));
        }
    }

    private static void aCodeOfOne(Due due) {
        for (int m = 0; m <= 5; m++) {
            PatchedMachine x = new PatchedMachine();
            Build.method(x, m, 0, 0, 0, Build.op(Build.JUMP, 0));
            due.is("a code of one", 0, x.commit());
            due.is("it is defined", true, x.start(m));
            due.is("it runs", 300, x.run(300));
            due.is("on its one place", 100 * m, x.frame(0));
        }
    }

    private static void aCodeOfFourteen(Due due) {
        for (int m = 0; m <= 5; m++) {
            PatchedMachine x = new PatchedMachine();
            x.head(m, 0, 0, 0);
            for (int place = 0; place < 12; place++) {
                due.is("place " + place, true, x.code(m, place % 2 == 0 ? Build.PUSH : Build.OUT, 0, 0));
            }
            due.is("place 12", true, x.code(m, Build.PUSH, 50 + m, 0));
            due.is("place 13", true, x.code(m, Build.RETURN, 0, 0));
            int[] fitting = {0, 1, 0, 0, 0, 0, 0, 0, 0, 0, 1, 1, 1, 0, 0, 1, 0};
            for (int op = 0; op <= 16; op++) {
                due.is("op " + op + " at place 14", false, x.code(m, op, fitting[op], 0));
            }
            due.is("of another method there is room", true, x.head((m + 1) % 6, 0, 0, 0));
            Build.commit(x);
            Build.start(x, m);
            due.is("thirteen steps", 13, x.run(13));
            due.is("at the last place", 100 * m + 13, x.frame(0));
            due.is("the last step", 1, x.run(300));
            due.is("its result", 50 + m, x.result());
            x.head(m, 0, 0, 0);
            due.is("a new head has room again", true, x.code(m, Build.PUSH, 0, 0));
        }
    }
}
