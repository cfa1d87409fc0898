/** PATCHES: what a patch touches and restricts, how many wait, in which order and when they are applied. */
public final class PatchEdgeTest {
    private static final int[] RETURN = Build.op(Build.RETURN);
    private static final int[] PUSH = Build.op(Build.PUSH, 1);

    public static void main(String[] args) {
        Due due = new Due();
        theDraftBeginsAsTheNewest(due);
        theDraftTouchesNothingBehindCommit(due);
        dropTakesBackEveryClass(due);
        dropTakesBackEveryMethod(due);
        touchedMethodsAreRestricted(due);
        touchedLikeTheOldOnesCount(due);
        classesRestrictByNewGetAndPut(due);
        numbersOfParametersRestrict(due);
        typesOfParametersAndResultsRestrict(due);
        everyCallerOfEveryMethod(due);
        otherLocalsRestrictNothing(due);
        callersOfCallersAreFree(due);
        codesOfTheProgramBeforeCount(due);
        headsOfTheProgramBeforeCount(due);
        threeWaitAtMost(due);
        onePlaceBecomesFree(due);
        manyPatchesInTurn(due);
        aLaterOneDoesNotOvertake(due);
        asManyAsCanAreAppliedAtOnce(due);
        anyFrameOfAMethodCounts(due);
        everyEndAppliesAll(due);
        aStartAppliesNothing(due);
        due.end();
    }

    /** Method 0 is being run, at place 0; methods 1 to 5 return their numbers. */
    private static PatchedMachine running() {
        PatchedMachine x = new PatchedMachine();
        for (int m = 0; m <= 5; m++) {
            Build.constant(x, m, m);
        }
        Build.commit(x);
        Build.start(x, 0);
        return x;
    }

    private static void theDraftBeginsAsTheNewest(Due due) {
        PatchedMachine x = new PatchedMachine();
        Build.constant(x, 0, 0);
        Build.fields(x, 1, new int[] {1, 0, -1});
        Build.commit(x);
        Build.start(x, 0);
        Build.constant(x, 0, 1);
        Build.fields(x, 1, new int[] {2, 0, -1});
        Build.constant(x, 2, 22);
        Build.commit(x);
        Build.constant(x, 3, 33);
        Build.commit(x);
        due.is("two wait", 2, x.waiting());
        int[] get = {Build.GET, 1, 1};
        Build.method(x, 4, 0, 0, 0, Build.op(Build.NULL, 1), get, RETURN);
        due.is("a field of the present one alone", 402, x.commit());
        Build.method(x, 4, 0, 0, 0, Build.op(Build.NULL, 1), Build.op(Build.GET, 1, 2), Build.op(Build.OUT),
                Build.op(Build.CALL, 2), Build.op(Build.CALL, 3), Build.op(Build.ADD), RETURN);
        due.is("a field and methods of those that wait", 0, x.commit());
        due.is("three wait", 3, x.waiting());
        x.layout(1);
        due.is("drop goes back to the newest", true, x.drop());
        x.run(300);
        due.is("all applied", 4, x.applied());
        due.is("the field of the newest", 32, x.shape(1, 0));
        Build.start(x, 4);
        x.run(300);
        due.is("its method meets null", 3, x.status());
    }

    private static void theDraftTouchesNothingBehindCommit(Due due) {
        for (int waiting = 0; waiting <= 2; waiting++) {
            PatchedMachine x = running();
            for (int i = 0; i < waiting; i++) {
                Build.constant(x, 0, 9);
                Build.commit(x);
            }
            Build.constant(x, 5, 9);
            Build.fields(x, 3, new int[] {3, 0, -1});
            due.is("commit behind " + waiting, 0, x.commit());
            due.is("drop", false, x.drop());
            due.is("commit again", -1, x.commit());
            due.is("field", false, x.field(3, 4, 0, -1));
            due.is("code", false, x.code(5, Build.PUSH, 0, 0));
            due.is("waiting", waiting == 0 ? 0 : waiting + 1, x.waiting());
            x.layout(3);
            due.is("the newest has the field", true, x.field(3, 4, 0, 3));
        }
    }

    private static void dropTakesBackEveryClass(Due due) {
        for (int c = 1; c <= 3; c++) {
            PatchedMachine x = running();
            Build.fields(x, c, new int[] {4, 0, -1}, new int[] {5, c, -1});
            Build.commit(x);
            Build.constant(x, 0, 9);
            Build.commit(x);
            due.is("drop of nothing", false, x.drop());
            x.layout(c);
            due.is("drop of a layout", true, x.drop());
            due.is("no field without a layout", false, x.field(c, 6, 0, 4));
            due.is("drop again", false, x.drop());
            Build.fields(x, c, new int[] {6, 0, 4});
            due.is("drop of a field", true, x.drop());
            due.is("nothing to commit", -1, x.commit());
            Build.constant(x, 1, 2);
            Build.commit(x);
            x.run(300);
            due.is("all applied", 4, x.applied());
            due.is("the class has its fields", 2, x.shape(c, -1));
            due.is("the first of them", 64, x.shape(c, 0));
            due.is("the second of them", 80 + c, x.shape(c, 1));
        }
    }

    private static void dropTakesBackEveryMethod(Due due) {
        for (int m = 0; m <= 5; m++) {
            PatchedMachine x = running();
            Build.constant(x, 0, 9);
            Build.constant(x, m, 60);
            Build.commit(x);
            due.is("waits", 1, x.waiting());
            x.head(m, 0, 0, 0);
            due.is("drop of a head", true, x.drop());
            due.is("no code without a head", false, x.code(m, Build.PUSH, 0, 0));
            due.is("drop again", false, x.drop());
            Build.constant(x, m, 70);
            due.is("drop of a code", true, x.drop());
            due.is("nothing to commit", -1, x.commit());
            x.layout(1);
            Build.commit(x);
            x.run(300);
            due.is("all applied", 3, x.applied());
            Build.start(x, m);
            due.is("the newest code", 2, x.run(300));
            due.is("its result", 60, x.result());
        }
    }

    /** Every set of methods is touched while each of them is being run. */
    private static void touchedMethodsAreRestricted(Due due) {
        for (int run = 0; run <= 5; run++) {
            for (int set = 1; set < 64; set++) {
                PatchedMachine x = new PatchedMachine();
                for (int m = 0; m <= 5; m++) {
                    Build.constant(x, m, m);
                }
                Build.commit(x);
                Build.start(x, run);
                for (int m = 0; m <= 5; m++) {
                    if ((set >> m & 1) != 0) {
                        Build.constant(x, m, m + 1);
                    }
                }
                Build.commit(x);
                boolean waits = (set >> run & 1) != 0;
                due.is("set " + set + " while " + run + " runs", waits ? set : 0, x.restricted());
                due.is("it waits", waits ? 1 : 0, x.waiting());
                due.is("it is applied", waits ? 1 : 2, x.applied());
            }
        }
    }

    private static void touchedLikeTheOldOnesCount(Due due) {
        PatchedMachine x = running();
        Build.constant(x, 0, 0);
        due.is("a method like the old one", 0, x.commit());
        due.is("waits", 1, x.waiting());
        due.is("and is restricted", 1, x.restricted());
        x.run(300);
        due.is("and is applied", 2, x.applied());
        x.layout(3);
        due.is("a class without fields, as it was", 0, x.commit());
        due.is("is applied too", 3, x.applied());
        Build.method(x, 0, 0, 3, 0, Build.op(Build.NEW, 3), Build.op(Build.STORE, 0), PUSH, RETURN);
        Build.commit(x);
        Build.start(x, 0);
        x.layout(3);
        Build.commit(x);
        due.is("a class like the old one", 1, x.restricted());
    }

    /** Method 0 uses class d by one instruction, which is run or stands behind the RETURN; the patch touches class c. */
    private static void classesRestrictByNewGetAndPut(Due due) {
        for (int c = 1; c <= 3; c++) {
            for (int d = 1; d <= 3; d++) {
                for (int use = 0; use < 7; use++) {
                    for (int behind = 0; behind <= 1; behind++) {
                        PatchedMachine x = new PatchedMachine();
                        for (int each = 1; each <= 3; each++) {
                            Build.fields(x, each, new int[] {4, 0, -1});
                        }
                        Build.method(x, 1, 1, d, 0, PUSH, RETURN);
                        Build.method(x, 2, 0, 0, d, Build.op(Build.NULL, d), RETURN);
                        x.head(0, 0, d, 0);
                        if (behind == 1) {
                            x.code(0, Build.PUSH, 0, 0);
                            x.code(0, Build.RETURN, 0, 0);
                        }
                        for (int[] line : using(use, d)) {
                            x.code(0, line[0], line[1], line[2]);
                        }
                        Build.commit(x);
                        Build.start(x, 0);
                        Build.fields(x, c, new int[] {4, 0, -1});
                        Build.commit(x);
                        boolean restricts = c == d && use < 3;
                        due.is("class " + c + ", use " + use + " of class " + d, restricts ? 1 : 0, x.restricted());
                        due.is("it is applied", restricts ? 1 : 2, x.applied());
                    }
                }
            }
        }
    }

    /** NEW, GET and PUT, then what does not restrict: NULL, SAME, a parameter and a result; local 0 is of class d. */
    private static int[][] using(int use, int d) {
        int[] load = Build.op(Build.LOAD, 0);
        int[] store = Build.op(Build.STORE, 0);
        int[][][] uses = {
            {Build.op(Build.NEW, d), store, PUSH, RETURN},
            {load, Build.op(Build.GET, d, 4), RETURN},
            {load, PUSH, Build.op(Build.PUT, d, 4), PUSH, RETURN},
            {Build.op(Build.NULL, d), store, PUSH, RETURN},
            {load, load, Build.op(Build.SAME, d), RETURN},
            {load, Build.op(Build.CALL, 1), RETURN},
            {Build.op(Build.CALL, 2), store, PUSH, RETURN},
        };
        return uses[use];
    }

    /** Method 0 calls method 1 with p and method 2 with q numbers; the patch changes these, and 0 stays sound. */
    private static void numbersOfParametersRestrict(Due due) {
        for (int p = 0; p <= 3; p++) {
            for (int q = 0; q <= 3; q++) {
                if (p + q > 5) {
                    continue;
                }
                PatchedMachine x = new PatchedMachine();
                x.head(0, 0, 0, 0);
                for (int i = 0; i < p + q; i++) {
                    x.code(0, Build.PUSH, i, 0);
                }
                x.code(0, Build.CALL, 1, 0);
                x.code(0, Build.CALL, 2, 0);
                x.code(0, Build.ADD, 0, 0);
                x.code(0, Build.RETURN, 0, 0);
                Build.method(x, 1, p, 0, 0, PUSH, RETURN);
                Build.method(x, 2, q, 0, 0, PUSH, RETURN);
                Build.commit(x);
                Build.start(x, 0);
                Build.method(x, 1, q, 0, 0, PUSH, RETURN);
                Build.method(x, 2, p, 0, 0, PUSH, RETURN);
                Build.commit(x);
                due.is(p + " and " + q + " parameters", p == q ? 0 : 7, x.restricted());
                due.is("it waits", p == q ? 0 : 1, x.waiting());
                x.run(300);
                due.is("the run returns", 2, x.status());
                due.is("it is applied", 2, x.applied());
            }
        }
    }

    /** Method 0 hands what method 2 returns to method 1 as its parameter i of three. */
    private static void typesOfParametersAndResultsRestrict(Due due) {
        for (int i = 0; i < 3; i++) {
            for (int type = 0; type <= 3; type++) {
                for (int other = 0; other <= 3; other++) {
                    PatchedMachine x = new PatchedMachine();
                    x.head(0, 0, 0, 0);
                    for (int k = 0; k < 3; k++) {
                        x.code(0, k == i ? Build.CALL : Build.PUSH, k == i ? 2 : 7, 0);
                    }
                    x.code(0, Build.CALL, 1, 0);
                    x.code(0, Build.RETURN, 0, 0);
                    handing(x, i, type);
                    Build.commit(x);
                    Build.start(x, 0);
                    handing(x, i, other);
                    Build.commit(x);
                    due.is("parameter " + i + ", " + type + " becomes " + other, type == other ? 0 : 7,
                            x.restricted());
                    due.is("it is applied", type == other ? 2 : 1, x.applied());
                }
            }
        }
    }

    private static void handing(PatchedMachine x, int i, int type) {
        Build.method(x, 2, 0, 0, type, Build.op(type == 0 ? Build.PUSH : Build.NULL, type), RETURN);
        Build.method(x, 1, 3, type << 2 * i, 0, PUSH, RETURN);
    }

    /** Caller a hands what b returns to d, of another type now; while method e runs, which calls none, nothing waits. */
    private static void everyCallerOfEveryMethod(Due due) {
        for (int number = 0; number < 6 * 6 * 6; number++) {
            int a = number % 6;
            int b = number / 6 % 6;
            int d = number / 36;
            if (a == b || b == d || a == d) {
                continue;
            }
            for (int e = 0; e <= 5; e++) {
                PatchedMachine x = new PatchedMachine();
                for (int m = 0; m <= 5; m++) {
                    Build.constant(x, m, m);
                }
                Build.method(x, a, 0, 0, 0, Build.op(Build.CALL, b), Build.op(Build.CALL, d), RETURN);
                Build.method(x, b, 0, 0, 1, Build.op(Build.NULL, 1), RETURN);
                Build.method(x, d, 1, 1, 0, PUSH, RETURN);
                Build.commit(x);
                if (e != b && e != d) {
                    Build.start(x, e);
                }
                Build.method(x, b, 0, 0, 3, Build.op(Build.NULL, 3), RETURN);
                Build.method(x, d, 1, 3, 0, PUSH, RETURN);
                Build.commit(x);
                int want = e == a ? 1 << a | 1 << b | 1 << d : 0;
                due.is(a + " calls " + b + " and " + d + " while " + e + " runs", want, x.restricted());
                due.is("applied", e == a ? 1 : 2, x.applied());
            }
        }
    }

    /** The types of the locals behind the parameters are no caller's concern. */
    private static void otherLocalsRestrictNothing(Due due) {
        for (int parameters = 0; parameters <= 3; parameters++) {
            for (int local = parameters; local <= 3; local++) {
                PatchedMachine x = new PatchedMachine();
                x.head(0, 0, 0, 0);
                for (int i = 0; i < parameters; i++) {
                    x.code(0, Build.PUSH, i, 0);
                }
                x.code(0, Build.CALL, 3, 0);
                x.code(0, Build.RETURN, 0, 0);
                Build.method(x, 3, parameters, 0, 0, PUSH, RETURN);
                Build.commit(x);
                Build.start(x, 0);
                Build.method(x, 3, parameters, 3 << 2 * local, 0, Build.op(Build.PUSH, 6), RETURN);
                Build.commit(x);
                due.is("local " + local + " behind " + parameters + " parameters", 2, x.applied());
                x.run(300);
                due.is("the new one is called", 6, x.result());
            }
        }
    }

    /** Method 0 calls 3, and 3 hands what 2 returns to 1, of another type now. */
    private static void callersOfCallersAreFree(Due due) {
        for (int steps = 0; steps <= 1; steps++) {
            PatchedMachine x = new PatchedMachine();
            Build.method(x, 0, 0, 0, 0, Build.op(Build.CALL, 3), RETURN);
            Build.method(x, 3, 0, 0, 0, Build.op(Build.CALL, 2), PUSH, PUSH, Build.op(Build.CALL, 1), RETURN);
            handing(x, 0, 1);
            Build.commit(x);
            Build.start(x, 0);
            for (int i = 0; i < steps; i++) {
                x.run(1);
            }
            handing(x, 0, 2);
            Build.commit(x);
            due.is("restricted behind " + steps + " steps", steps == 0 ? 0 : 14, x.restricted());
            due.is("applied behind " + steps + " steps", steps == 0 ? 2 : 1, x.applied());
            x.run(9 - steps);
            due.is("method 3 has its frame still", 2, x.depth());
            due.is("applied while it has", steps == 0 ? 2 : 1, x.applied());
            x.run(1);
            due.is("method 3 has returned, 0 has not", 1, x.depth());
            due.is("applied then", 2, x.applied());
        }
    }

    /** Method 0 calls 5, which the first patch waits for; the second one waits for method 0. */
    private static PatchedMachine inMethodFive() {
        PatchedMachine x = new PatchedMachine();
        Build.method(x, 0, 0, 0, 0, Build.op(Build.CALL, 5), RETURN);
        Build.constant(x, 5, 5);
        Build.method(x, 1, 0, 1, 0, Build.op(Build.NEW, 1), Build.op(Build.STORE, 0), PUSH, RETURN);
        Build.method(x, 2, 0, 1, 0, PUSH, RETURN);
        Build.method(x, 3, 0, 0, 0, Build.op(Build.CALL, 4), RETURN);
        Build.constant(x, 4, 4);
        Build.commit(x);
        Build.start(x, 0);
        x.run(1);
        return x;
    }

    private static void codesOfTheProgramBeforeCount(Due due) {
        PatchedMachine x = inMethodFive();
        Build.constant(x, 5, 6);
        Build.method(x, 1, 0, 1, 0, PUSH, RETURN);
        Build.method(x, 2, 0, 1, 0, Build.op(Build.NEW, 1), Build.op(Build.STORE, 0), PUSH, RETURN);
        Build.commit(x);
        x.layout(1);
        Build.constant(x, 0, 0);
        Build.commit(x);
        due.is("the first one's", 32 + 4 + 2, x.restricted());
        x.run(2);
        due.is("the first one is applied", 2, x.applied());
        due.is("the second one's: 2 has the NEW now, 1 no more", 1 + 4, x.restricted());
    }

    /** Method 1 hands what 2 returns to 3: the first patch changes the type between them, the second changes it back. */
    private static void headsOfTheProgramBeforeCount(Due due) {
        PatchedMachine x = inMethodFive();
        Build.method(x, 1, 0, 0, 0, Build.op(Build.CALL, 2), Build.op(Build.CALL, 3), RETURN);
        between(x, 1);
        Build.commit(x);
        due.is("applied at once", 2, x.applied());
        Build.constant(x, 5, 6);
        between(x, 2);
        Build.commit(x);
        Build.constant(x, 0, 0);
        between(x, 1);
        Build.commit(x);
        due.is("the first one's", 32 + 8 + 4 + 2, x.restricted());
        x.run(2);
        due.is("the second one's", 8 + 4 + 2 + 1, x.restricted());
        x.run(300);
        due.is("all applied", 4, x.applied());
    }

    private static void between(PatchedMachine x, int type) {
        Build.method(x, 2, 0, 0, type, Build.op(Build.NULL, type), RETURN);
        Build.method(x, 3, 1, type, 0, PUSH, RETURN);
    }

    private static void threeWaitAtMost(Due due) {
        PatchedMachine x = running();
        for (int i = 1; i <= 3; i++) {
            Build.constant(x, 0, 10 * i);
            due.is("commit " + i, 0, x.commit());
            due.is("waiting", i, x.waiting());
        }
        due.is("commit of nothing", -1, x.commit());
        Build.constant(x, 1, 77);
        due.is("a fourth, of another method", -1, x.commit());
        due.is("again", -1, x.commit());
        due.is("waiting", 3, x.waiting());
        due.is("restricted", 1, x.restricted());
        due.is("applied", 1, x.applied());
        due.is("the draft still touches", true, x.drop());
        x.run(300);
        due.is("the run's own code", 0, x.result());
        due.is("three applied", 4, x.applied());
        Build.start(x, 0);
        x.run(300);
        due.is("the third one's", 30, x.result());
        Build.start(x, 1);
        x.run(300);
        due.is("the fourth one never was", 1, x.result());
    }

    /** Method 0 calls 1 and then 2, while patches of 1, 0 and 2 wait. */
    private static void onePlaceBecomesFree(Due due) {
        PatchedMachine x = new PatchedMachine();
        Build.method(x, 0, 0, 0, 0, Build.op(Build.CALL, 1), Build.op(Build.CALL, 2), Build.op(Build.ADD), RETURN);
        Build.constant(x, 1, 1);
        Build.constant(x, 2, 2);
        Build.commit(x);
        Build.start(x, 0);
        x.run(1);
        Build.constant(x, 1, 10);
        Build.commit(x);
        Build.constant(x, 0, 7);
        Build.commit(x);
        Build.constant(x, 2, 20);
        Build.commit(x);
        Build.constant(x, 3, 30);
        due.is("no room", -1, x.commit());
        x.run(1);
        due.is("still no room", -1, x.commit());
        x.run(1);
        due.is("one applied", 2, x.applied());
        due.is("room for one", 0, x.commit());
        due.is("three wait again", 3, x.waiting());
        due.is("restricted by the second", 1, x.restricted());
        Build.constant(x, 4, 40);
        due.is("no room again", -1, x.commit());
        x.run(300);
        due.is("2 was not patched while 0 ran", 3, x.result());
        due.is("all applied", 5, x.applied());
        due.is("room again", 0, x.commit());
        due.is("applied at once", 6, x.applied());
    }

    /** Forty patches, of which one to three wait at a time, each with a number of its own. */
    private static void manyPatchesInTurn(Due due) {
        PatchedMachine x = new PatchedMachine();
        Build.constant(x, 0, 0);
        Build.commit(x);
        int number = 0;
        for (int round = 0; round < 20; round++) {
            Build.start(x, 0);
            int before = number;
            for (int i = 0; i <= round % 3; i++) {
                number++;
                Build.constant(x, 0, number);
                Build.commit(x);
                due.is("waiting in round " + round, i + 1, x.waiting());
            }
            due.is("steps in round " + round, 2, x.run(300));
            due.is("result of round " + round, before, x.result());
            due.is("applied behind round " + round, 1 + number, x.applied());
        }
    }

    /** The first waits for method 1, which runs; what stands behind it touches methods that are not run. */
    private static void aLaterOneDoesNotOvertake(Due due) {
        PatchedMachine x = new PatchedMachine();
        Build.method(x, 0, 0, 0, 0, Build.op(Build.CALL, 1), Build.op(Build.CALL, 2), Build.op(Build.ADD), RETURN);
        Build.method(x, 1, 0, 0, 0, Build.op(Build.CALL, 2), RETURN);
        Build.constant(x, 2, 2);
        Build.commit(x);
        Build.start(x, 0);
        x.run(1);
        Build.constant(x, 1, 1);
        Build.commit(x);
        Build.constant(x, 2, 20);
        Build.commit(x);
        due.is("both wait", 2, x.waiting());
        x.run(3);
        due.is("2 has run as it was, both wait", 2, x.waiting());
        x.run(1);
        due.is("1 has returned, both are applied", 3, x.applied());
        x.run(300);
        due.is("2 as it was and as it is", 22, x.result());
    }

    private static void asManyAsCanAreAppliedAtOnce(Due due) {
        for (int blocked = 1; blocked <= 3; blocked++) {
            PatchedMachine x = new PatchedMachine();
            Build.method(x, 0, 0, 0, 0, Build.op(Build.CALL, 1), RETURN);
            for (int m = 1; m <= 4; m++) {
                Build.constant(x, m, m);
            }
            Build.commit(x);
            Build.start(x, 0);
            x.run(1);
            for (int i = 0; i < 3; i++) {
                Build.constant(x, i == blocked ? 0 : i + 2, 9);
                if (i == 0) {
                    Build.constant(x, 1, 9);
                }
                Build.commit(x);
            }
            x.run(1);
            due.is("none before 1 returns", 3, x.waiting());
            x.run(1);
            due.is("applied up to number " + blocked, 1 + blocked, x.applied());
            due.is("the others wait", 3 - blocked, x.waiting());
            due.is("restricted", blocked < 3 ? 1 : 0, x.restricted());
            x.run(1);
            due.is("all applied at the end", 4, x.applied());
            due.is("what was being run", 1, x.result());
        }
    }

    /** A method counts whether its frame is the lowest, the top, or between, and as long as one of several is left. */
    private static void anyFrameOfAMethodCounts(Due due) {
        for (int touched = 0; touched <= 3; touched++) {
            PatchedMachine x = new PatchedMachine();
            Build.method(x, 0, 0, 0, 0, Build.op(Build.CALL, 1), RETURN);
            Build.method(x, 1, 0, 0, 0, Build.op(Build.CALL, 2), RETURN);
            Build.constant(x, 2, 2);
            Build.constant(x, 3, 3);
            Build.commit(x);
            Build.start(x, 0);
            x.run(2);
            Build.constant(x, touched, 50);
            Build.commit(x);
            int[] frames = {3, 3, 2, 1, 0};
            for (int left : frames) {
                due.is("frames", left, x.depth());
                due.is("method " + touched + " of frames 0 to " + (left - 1), touched < left ? 1 : 0, x.waiting());
                x.run(1);
            }
        }
        recursion(due);
    }

    /** Method 1 calls itself twice; of its three frames the last one to go is the lowest. */
    private static void recursion(Due due) {
        PatchedMachine x = new PatchedMachine();
        Build.method(x, 0, 0, 0, 0, Build.op(Build.PUSH, 2), Build.op(Build.CALL, 1), RETURN);
        Build.method(x, 1, 1, 0, 0, Build.op(Build.LOAD, 0), Build.op(Build.ZERO, 6), Build.op(Build.LOAD, 0), PUSH,
                Build.op(Build.SUB), Build.op(Build.JUMP, 6), PUSH, RETURN);
        due.is("a jump with one on the stack", 106, x.commit());
        Build.method(x, 1, 1, 0, 0, Build.op(Build.LOAD, 0), Build.op(Build.ZERO, 7), Build.op(Build.LOAD, 0), PUSH,
                Build.op(Build.SUB), Build.op(Build.CALL, 1), RETURN, Build.op(Build.PUSH, 8), RETURN);
        Build.commit(x);
        Build.start(x, 0);
        x.run(2 + 6 + 6);
        due.is("frames", 4, x.depth());
        Build.method(x, 1, 1, 0, 0, Build.op(Build.PUSH, 9), RETURN);
        Build.commit(x);
        x.run(4);
        due.is("one has returned", 3, x.depth());
        due.is("waits", 1, x.waiting());
        x.run(1);
        due.is("one is left", 2, x.depth());
        due.is("waits still", 1, x.waiting());
        x.run(1);
        due.is("applied", 0, x.waiting());
        x.run(1);
        due.is("the result of the old code", 8, x.result());
    }

    /** RETURNED, VOID, FULL and DEEP, each while three patches wait for the method. */
    private static void everyEndAppliesAll(Due due) {
        int[] load = Build.op(Build.LOAD, 0);
        int[][][] codes = {
            {PUSH, RETURN},
            {load, Build.op(Build.GET, 1, 2), RETURN},
            {Build.op(Build.NEW, 1), Build.op(Build.STORE, 1), Build.op(Build.LOAD, 1), load,
                Build.op(Build.PUT, 1, 3), Build.op(Build.LOAD, 1), Build.op(Build.STORE, 0), Build.op(Build.JUMP, 0)},
            {Build.op(Build.CALL, 0), RETURN},
        };
        int[] objects = {0, 0, 16, 0};
        for (int end = 2; end <= 5; end++) {
            PatchedMachine x = new PatchedMachine();
            Build.fields(x, 1, new int[] {2, 0, -1}, new int[] {3, 1, -1});
            Build.method(x, 0, 0, Build.locals(1, 1), 0, codes[end - 2]);
            Build.commit(x);
            Build.start(x, 0);
            x.run(1);
            for (int i = 0; i < 3; i++) {
                Build.constant(x, 0, i);
                Build.fields(x, 1, new int[] {2, 0, 2}, new int[] {3, 1, 3});
                Build.commit(x);
            }
            due.is("three wait", 3, x.waiting());
            int most = 0;
            for (int i = 0; i < 60 && x.status() == 1; i++) {
                due.is("they wait to the end", 3, x.waiting());
                most = Math.max(most, x.objects());
                x.run(3);
            }
            due.is("most objects", objects[end - 2], most);
            due.is("the end", end, x.status());
            due.is("all applied", 4, x.applied());
            due.is("no object was left to move", 0, x.moved());
            due.is("nor is one there", 0, x.objects());
            Build.start(x, 0);
            x.run(300);
            due.is("the latest code", 2, x.result());
        }
    }

    private static void aStartAppliesNothing(Due due) {
        PatchedMachine x = running();
        x.run(300);
        Build.constant(x, 0, 4);
        due.is("a draft is no patch", 1, x.applied());
        due.is("start of the present one", true, x.start(0));
        due.is("nothing applied by start", 1, x.applied());
        due.is("nor by what is refused", false, x.start(0));
        due.is("commit behind it waits", 0, x.commit());
        due.is("waiting", 1, x.waiting());
        due.is("run(0) is no step", -1, x.run(0));
        due.is("waiting still", 1, x.waiting());
        x.run(300);
        due.is("the result", 0, x.result());
        due.is("applied", 2, x.applied());
    }
}
