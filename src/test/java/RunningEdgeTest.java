/** RUNNING, and the ranges of promises 12 to 20: sixteen objects, eight frames, the four ends, what is collected. */
public final class RunningEdgeTest {
    private static final int LEAST = Integer.MIN_VALUE;
    private static final int MOST = Integer.MAX_VALUE;
    private static final int[] RETURN = Build.op(Build.RETURN);
    private static final int[] LOAD = Build.op(Build.LOAD, 0);
    private static final int[] PUSH = Build.op(Build.PUSH, 1);
    private static final int[] OUT = Build.op(Build.OUT);

    public static void main(String[] args) {
        Due due = new Due();
        asManyAsAreReachedAreLeft(due);
        fifteenAreNotCollected(due);
        eightFrames(due);
        everyEndAtEveryDepth(due);
        voidByGetAndPut(due);
        nullMayBePut(due);
        everyLocalReaches(due);
        everyStackPlaceReaches(due);
        everyFrameReaches(due);
        whatGetAndPutHaveTaken(due);
        framesBeginEmpty(due);
        startBehindEveryEnd(due);
        startNeedsNoParameterAndAnInt(due);
        runMakesUpToThreeHundred(due);
        runEndsWithTheRun(due);
        resultOfTheLatestRun(due);
        frameOfEveryDepth(due);
        outputsOfAllRuns(due);
        newObjectsInPlacesUsedBefore(due);
        stacksLeftByAnEnd(due);
        allCallsThatArePromised(due);
        due.end();
    }

    /** Method 0 makes a chain of so many, then calls method 3, which makes objects that nothing holds. */
    private static PatchedMachine holding(int count) {
        PatchedMachine x = new PatchedMachine();
        Build.fields(x, 1, new int[] {5, 1, -1});
        Build.method(x, 2, 1, Build.locals(1, 1), 1, Build.op(Build.NEW, 1), Build.op(Build.STORE, 1),
                Build.op(Build.LOAD, 1), LOAD, Build.op(Build.PUT, 1, 5), Build.op(Build.LOAD, 1), RETURN);
        Build.method(x, 3, 0, 0, 0, Build.op(Build.NEW, 2), Build.op(Build.NULL, 2), Build.op(Build.SAME, 2),
                Build.op(Build.ZERO, 0), PUSH, RETURN);
        Build.method(x, 0, 0, Build.locals(1, 0), 0, Build.op(Build.LOAD, 1), Build.op(Build.PUSH, count),
                Build.op(Build.LESS), Build.op(Build.ZERO, 12), LOAD, Build.op(Build.CALL, 2),
                Build.op(Build.STORE, 0), Build.op(Build.LOAD, 1), PUSH, Build.op(Build.ADD),
                Build.op(Build.STORE, 1), Build.op(Build.JUMP, 0), Build.op(Build.CALL, 3), RETURN);
        Build.constant(x, 5, 5);
        Build.commit(x);
        Build.start(x, 0);
        for (int left = count * 19 + 5; left > 0; left -= 300) {
            x.run(Math.min(left, 300));
        }
        return x;
    }

    private static void asManyAsAreReachedAreLeft(Due due) {
        for (int count = 0; count <= 16; count++) {
            PatchedMachine x = holding(count);
            due.is("in method 3", 300, x.frame(0));
            due.is("objects held", count, x.objects());
            for (int made = count + 1; made <= 16; made++) {
                x.run(1);
                due.is("one more", made, x.objects());
                x.run(3);
            }
            due.is("still going on", 1, x.status());
            due.is("the step at sixteen", 1, x.run(1));
            if (count == 16) {
                due.is("FULL", 4, x.status());
                due.is("sixteen are there", 16, x.objects());
                due.is("no frame", 0, x.depth());
            } else {
                due.is("those held and the new one", count + 1, x.objects());
                due.is("going on", 1, x.status());
                x.run(3);
                Build.constant(x, 5, 6);
                Build.commit(x);
                due.is("a patch takes the new one away", count, x.objects());
            }
        }
    }

    private static void fifteenAreNotCollected(Due due) {
        PatchedMachine x = holding(0);
        x.run(15 * 4);
        due.is("fifteen that nothing holds", 15, x.objects());
        x.run(1);
        due.is("a NEW at fifteen collects nothing", 16, x.objects());
        x.run(3);
        due.is("nor does any other step", 16, x.objects());
        x.run(1);
        due.is("a NEW at sixteen does", 1, x.objects());
    }

    /** Method 1 calls itself as many times as its parameter says, and adds one each time. */
    private static PatchedMachine calling(int times) {
        PatchedMachine x = new PatchedMachine();
        Build.method(x, 0, 0, 0, 0, Build.op(Build.PUSH, times), Build.op(Build.CALL, 1), RETURN);
        Build.method(x, 1, 1, 0, 0, LOAD, Build.op(Build.ZERO, 9), PUSH, LOAD, PUSH, Build.op(Build.SUB),
                Build.op(Build.CALL, 1), Build.op(Build.ADD), RETURN, Build.op(Build.PUSH, 500), RETURN);
        Build.commit(x);
        Build.start(x, 0);
        return x;
    }

    private static void eightFrames(Due due) {
        for (int times = 0; times <= 6; times++) {
            PatchedMachine x = calling(times);
            x.run(2 + 7 * times);
            due.is("frames of " + times, times + 2, x.depth());
            due.is("steps of " + times, 4 + 2 * times + 1, x.run(300));
            due.is("it returns", 2, x.status());
            due.is("its result", 500 + times, x.result());
        }
        for (int times : new int[] {7, 8, MOST, -1}) {
            PatchedMachine x = calling(times);
            due.is("to the eighth frame", 44, x.run(44));
            due.is("eight frames", 8, x.depth());
            due.is("to the ninth", 6, x.run(6));
            due.is("still going on", 1, x.status());
            due.is("eight frames still", 8, x.depth());
            due.is("the CALL that ends it", 1, x.run(300));
            due.is("DEEP", 5, x.status());
            due.is("no frame", 0, x.depth());
            due.is("no result", 0, x.result());
        }
    }

    /** What ends a run, with local 0 of class 1: RETURN, GET, PUT, NEW or CALL. */
    private static int[][] ending(int kind) {
        int[] again = Build.op(Build.JUMP, 0);
        int[][][] codes = {
            {Build.op(Build.PUSH, 33), RETURN},
            {LOAD, Build.op(Build.GET, 1, 5), Build.op(Build.STORE, 0), again},
            {LOAD, LOAD, Build.op(Build.PUT, 1, 5), again},
            {Build.op(Build.NEW, 1), Build.op(Build.STORE, 1), Build.op(Build.LOAD, 1), LOAD,
                Build.op(Build.PUT, 1, 5), Build.op(Build.LOAD, 1), Build.op(Build.STORE, 0), again},
            {Build.op(Build.CALL, 2), RETURN},
        };
        return codes[kind];
    }

    /** The frames are of method 1, but for the top, which is of method 2 and does what ends the run. */
    private static void everyEndAtEveryDepth(Due due) {
        int[] status = {2, 3, 3, 4, 5};
        for (int kind = 0; kind < 5; kind++) {
            for (int depth = 2; depth <= 8; depth++) {
                PatchedMachine x = new PatchedMachine();
                Build.fields(x, 1, new int[] {5, 1, -1});
                Build.method(x, 2, 0, Build.locals(1, 1), 0, ending(kind));
                Build.method(x, 1, 1, 0, 0, LOAD, Build.op(Build.ZERO, 7), LOAD, PUSH, Build.op(Build.SUB),
                        Build.op(Build.CALL, 1), RETURN, Build.op(Build.CALL, 2), RETURN);
                Build.method(x, 0, 0, 0, 0, Build.op(Build.PUSH, depth - 3), Build.op(Build.CALL, 1), RETURN);
                if (depth == 2) {
                    Build.method(x, 0, 0, 0, 0, Build.op(Build.CALL, 2), RETURN);
                }
                Build.commit(x);
                Build.start(x, 0);
                x.run(depth == 2 ? 1 : 2 + 6 * (depth - 3) + 3);
                due.is("depth", depth, x.depth());
                due.is("the top", 200, x.frame(0));
                due.is("it ends", true, x.run(300) < 300);
                due.is("kind " + kind + " at depth " + depth, status[kind], x.status());
                due.is("no frame is left", 0, x.depth());
                due.is("no top", -1, x.frame(0));
                due.is("result", kind == 0 ? 33 : 0, x.result());
                due.is("objects", kind == 3 ? 16 : 0, x.objects());
                due.is("no more steps", -1, x.run(1));
                due.is("another run", true, x.start(0));
                due.is("goes on", 1, x.status());
            }
        }
    }

    private static void voidByGetAndPut(Due due) {
        for (int c = 1; c <= 3; c++) {
            for (int type = 0; type <= 3; type++) {
                for (int put = 0; put <= 1; put++) {
                    PatchedMachine x = new PatchedMachine();
                    Build.fields(x, c, new int[] {0, type, -1});
                    x.head(0, 0, Build.locals(c, type), 0);
                    x.code(0, Build.LOAD, 0, 0);
                    if (put == 1) {
                        x.code(0, type == 0 ? Build.PUSH : Build.NEW, type, 0);
                        x.code(0, Build.PUT, c, 0);
                    } else {
                        x.code(0, Build.GET, c, 0);
                        x.code(0, Build.STORE, 1, 0);
                    }
                    x.code(0, Build.PUSH, 1, 0);
                    x.code(0, Build.RETURN, 0, 0);
                    Build.commit(x);
                    Build.start(x, 0);
                    due.is("steps up to the null", 2 + put, x.run(300));
                    due.is("VOID by class " + c, 3, x.status());
                    due.is("the value that was to be put", type == 0 || put == 0 ? 0 : 1, x.objects());
                }
            }
        }
    }

    /** Null as a value is put, and takes away what was there. */
    private static void nullMayBePut(Due due) {
        PatchedMachine x = new PatchedMachine();
        Build.fields(x, 2, new int[] {0, 3, -1});
        Build.method(x, 0, 0, Build.locals(2), 0, Build.op(Build.NEW, 2), Build.op(Build.STORE, 0),
                LOAD, Build.op(Build.NEW, 3), Build.op(Build.PUT, 2, 0),
                LOAD, Build.op(Build.NULL, 3), Build.op(Build.PUT, 2, 0),
                LOAD, Build.op(Build.GET, 2, 0), Build.op(Build.NULL, 3), Build.op(Build.SAME, 3), RETURN);
        Build.constant(x, 5, 5);
        Build.commit(x);
        Build.start(x, 0);
        x.run(5);
        patch(x);
        due.is("it holds one", 2, x.objects());
        x.run(3);
        patch(x);
        due.is("it holds none", 1, x.objects());
        x.run(300);
        due.is("its field is null", 1, x.result());
    }

    /** A patch that touches nothing that is run or used: all that it does is to collect. */
    private static void patch(PatchedMachine x) {
        Build.constant(x, 5, 5);
        Build.commit(x);
    }

    private static void everyLocalReaches(Due due) {
        for (int c = 1; c <= 3; c++) {
            for (int local = 0; local <= 3; local++) {
                PatchedMachine x = new PatchedMachine();
                Build.method(x, 0, 0, c << 2 * local, 0, Build.op(Build.NEW, c), Build.op(Build.STORE, local),
                        Build.op(Build.NULL, c), Build.op(Build.STORE, local), PUSH, RETURN);
                Build.commit(x);
                Build.start(x, 0);
                x.run(2);
                patch(x);
                due.is("local " + local + " holds it", 1, x.objects());
                x.run(2);
                due.is("it is there until a collection", 1, x.objects());
                patch(x);
                due.is("local " + local + " holds none", 0, x.objects());
            }
        }
    }

    private static void everyStackPlaceReaches(Due due) {
        for (int place = 0; place <= 5; place++) {
            PatchedMachine x = new PatchedMachine();
            x.head(0, 0, 3, 0);
            for (int i = 0; i <= 5; i++) {
                x.code(0, i == place ? Build.NEW : Build.PUSH, i == place ? 3 : 1, 0);
            }
            for (int i = 5; i >= 0; i--) {
                x.code(0, i == place ? Build.STORE : Build.OUT, 0, 0);
            }
            x.code(0, Build.PUSH, 1, 0);
            x.code(0, Build.RETURN, 0, 0);
            Build.commit(x);
            Build.start(x, 0);
            x.run(place + 1);
            patch(x);
            due.is("at the top", 1, x.objects());
            x.run(5 - place);
            patch(x);
            due.is("with all six", 1, x.objects());
            x.run(5 - place);
            patch(x);
            due.is("when those above are taken", 1, x.objects());
            x.run(1);
            patch(x);
            due.is("when it is stored", 1, x.objects());
            x.run(300);
            patch(x);
            due.is("when the frame is gone", 0, x.objects());
        }
    }

    /** Method 1 calls itself until there are eight frames; the one with the number holder makes an object. */
    private static void everyFrameReaches(Due due) {
        for (int holder = 0; holder <= 6; holder++) {
            PatchedMachine x = new PatchedMachine();
            Build.method(x, 0, 0, 0, 0, Build.op(Build.PUSH, holder), Build.op(Build.CALL, 1), RETURN);
            Build.method(x, 1, 1, Build.locals(0, 2), 0, LOAD, Build.op(Build.ZERO, 3), Build.op(Build.JUMP, 5),
                    Build.op(Build.NEW, 2), Build.op(Build.STORE, 1), LOAD, PUSH, Build.op(Build.SUB),
                    Build.op(Build.CALL, 1), RETURN);
            Build.commit(x);
            Build.start(x, 0);
            for (int i = 0; i < 100 && x.depth() < 8; i++) {
                x.run(1);
            }
            due.is("eight frames", 8, x.depth());
            if (holder == 6) {
                x.run(4);
            }
            patch(x);
            due.is("frame " + (holder + 1) + " holds one", 1, x.objects());
            x.run(300);
            due.is("DEEP", 5, x.status());
            due.is("the end collects nothing", 1, x.objects());
            patch(x);
            due.is("no frame holds one", 0, x.objects());
        }
    }

    private static void whatGetAndPutHaveTaken(Due due) {
        PatchedMachine x = new PatchedMachine();
        Build.fields(x, 1, new int[] {2, 0, -1}, new int[] {3, 3, -1});
        Build.method(x, 0, 0, Build.locals(1, 3), 0, Build.op(Build.NEW, 1), Build.op(Build.GET, 1, 2), OUT,
                Build.op(Build.NEW, 1), Build.op(Build.NEW, 3), Build.op(Build.PUT, 1, 3),
                Build.op(Build.NEW, 1), Build.op(Build.STORE, 0), LOAD, Build.op(Build.NEW, 3),
                Build.op(Build.PUT, 1, 3), LOAD, Build.op(Build.GET, 1, 2), RETURN);
        Build.commit(x);
        Build.start(x, 0);
        x.run(1);
        patch(x);
        due.is("before GET", 1, x.objects());
        x.run(1);
        patch(x);
        due.is("behind GET", 0, x.objects());
        x.run(3);
        patch(x);
        due.is("before PUT", 2, x.objects());
        x.run(1);
        patch(x);
        due.is("behind PUT", 0, x.objects());
        x.run(4);
        patch(x);
        due.is("before PUT into one that is held", 2, x.objects());
        x.run(1);
        patch(x);
        due.is("behind it", 2, x.objects());
        whatSameAndStoreHaveTaken(due);
    }

    private static void whatSameAndStoreHaveTaken(Due due) {
        PatchedMachine x = new PatchedMachine();
        Build.method(x, 0, 0, Build.locals(1), 0, Build.op(Build.NEW, 1), Build.op(Build.NEW, 1),
                Build.op(Build.SAME, 1), OUT, Build.op(Build.NEW, 1), Build.op(Build.STORE, 0), Build.op(Build.NEW, 1),
                Build.op(Build.STORE, 0), LOAD, Build.op(Build.CALL, 1), RETURN);
        Build.method(x, 1, 1, 1, 0, Build.op(Build.NULL, 1), Build.op(Build.STORE, 0), PUSH, RETURN);
        Build.commit(x);
        Build.start(x, 0);
        x.run(2);
        patch(x);
        due.is("before SAME", 2, x.objects());
        x.run(1);
        patch(x);
        due.is("behind SAME", 0, x.objects());
        x.run(5);
        patch(x);
        due.is("behind two STOREs into one local", 1, x.objects());
    }

    /** Method 1 fills its locals; called again, it finds them as if it never had. */
    private static void framesBeginEmpty(Due due) {
        for (int local = 1; local <= 3; local++) {
            PatchedMachine x = new PatchedMachine();
            Build.method(x, 0, 0, 0, 0, PUSH, Build.op(Build.CALL, 1), OUT, PUSH, Build.op(Build.CALL, 1), OUT,
                    PUSH, Build.op(Build.CALL, 2), OUT, PUSH, Build.op(Build.CALL, 2), RETURN);
            Build.method(x, 1, 1, 0, 0, Build.op(Build.LOAD, local), Build.op(Build.PUSH, 3),
                    Build.op(Build.STORE, local), RETURN);
            int[] own = Build.op(Build.LOAD, local);
            Build.method(x, 2, 1, 1 << 2 * local, 0, own, Build.op(Build.NULL, 1), Build.op(Build.SAME, 1),
                    Build.op(Build.NEW, 1), Build.op(Build.STORE, local), RETURN);
            Build.commit(x);
            for (int round = 0; round < 2; round++) {
                Build.start(x, 0);
                x.run(300);
                due.is("null at the second call", 1, x.result());
                due.is("null at the first call", 1, x.output(0));
                due.is("0 at the second call", 0, x.output(1));
                due.is("0 at the first call", 0, x.output(2));
            }
        }
        runsBeginEmpty(due);
    }

    private static void runsBeginEmpty(Due due) {
        for (int local = 0; local <= 3; local++) {
            PatchedMachine x = new PatchedMachine();
            int[] own = Build.op(Build.LOAD, local);
            Build.method(x, 0, 0, 2 << 2 * local, 0, own, Build.op(Build.NULL, 2), Build.op(Build.SAME, 2), OUT,
                    Build.op(Build.NEW, 2), Build.op(Build.STORE, local), PUSH, RETURN);
            Build.method(x, 1, 0, 0, 0, own, OUT, PUSH, Build.op(Build.STORE, local), PUSH, RETURN);
            Build.commit(x);
            for (int round = 0; round < 3; round++) {
                Build.start(x, 0);
                x.run(300);
                due.is("null in run " + round, 1, x.output(0));
                Build.start(x, 1);
                x.run(300);
                due.is("0 in run " + round, 0, x.output(0));
            }
        }
    }

    private static void startBehindEveryEnd(Due due) {
        for (int kind = 0; kind < 5; kind++) {
            PatchedMachine x = new PatchedMachine();
            Build.fields(x, 1, new int[] {5, 1, -1});
            Build.method(x, 2, 0, Build.locals(1, 1), 0, ending(kind));
            Build.constant(x, 3, 44);
            Build.commit(x);
            due.is("status before any run", 0, x.status());
            Build.start(x, 2);
            for (int m = -1; m <= 6; m++) {
                due.is("start(" + m + ") while it goes on", false, x.start(m));
            }
            due.is("the frame of the run", 200, x.frame(0));
            x.run(300);
            due.is("start behind the end", true, x.start(3));
            due.is("its frame", 300, x.frame(0));
            due.is("one frame", 1, x.depth());
            due.is("its status", 1, x.status());
            due.is("no result yet", 0, x.result());
            due.is("its steps", 2, x.run(300));
            due.is("its result", 44, x.result());
        }
    }

    /** Methods of every number of parameters and every result. */
    private static void startNeedsNoParameterAndAnInt(Due due) {
        for (int m = 0; m <= 5; m++) {
            for (int parameters = 0; parameters <= 3; parameters++) {
                for (int result = 0; result <= 3; result++) {
                    PatchedMachine x = new PatchedMachine();
                    Build.method(x, m, parameters, 0, result, Build.op(result == 0 ? Build.PUSH : Build.NULL, result),
                            RETURN);
                    due.is("a draft is not started", false, x.start(m));
                    Build.commit(x);
                    boolean starts = parameters == 0 && result == 0;
                    due.is("start with " + parameters + " parameters, result " + result, starts, x.start(m));
                    due.is("status", starts ? 1 : 0, x.status());
                    due.is("depth", starts ? 1 : 0, x.depth());
                }
            }
        }
    }

    private static void runMakesUpToThreeHundred(Due due) {
        PatchedMachine x = new PatchedMachine();
        Build.method(x, 4, 0, 0, 0, PUSH, OUT, Build.op(Build.JUMP, 0));
        Build.commit(x);
        due.is("no run", -1, x.run(1));
        Build.start(x, 4);
        for (int n : new int[] {LEAST, LEAST + 1, -300, -1, 0, 301, 302, 512, 65537, MOST}) {
            due.is("run(" + n + ")", -1, x.run(n));
            due.is("no step was made", 400, x.frame(0));
        }
        int steps = 0;
        for (int n : new int[] {1, 2, 3, 150, 299, 300}) {
            due.is("run(" + n + ")", n, x.run(n));
            steps += n;
            due.is("the place", 400 + steps % 3, x.frame(0));
            due.is("numbers put out", (steps + 1) / 3, x.outputs());
        }
    }

    /** A run of fourteen steps, in all ways to cut it into two calls. */
    private static void runEndsWithTheRun(Due due) {
        for (int first = 1; first <= 14; first++) {
            PatchedMachine x = new PatchedMachine();
            Build.method(x, 0, 0, 0, 0, PUSH, OUT, PUSH, OUT, PUSH, OUT, PUSH, OUT, PUSH, OUT, PUSH, OUT,
                    Build.op(Build.PUSH, 14), RETURN);
            Build.commit(x);
            Build.start(x, 0);
            due.is("run(" + first + ")", first, x.run(first));
            due.is("status", first < 14 ? 1 : 2, x.status());
            due.is("result", first < 14 ? 0 : 14, x.result());
            due.is("the rest", first < 14 ? 14 - first : -1, x.run(first % 2 == 0 ? 300 : 15));
            due.is("result of all", 14, x.result());
            due.is("no more", -1, x.run(1));
            due.is("the result stays", 14, x.result());
        }
    }

    private static void resultOfTheLatestRun(Due due) {
        for (int number : new int[] {LEAST, -1, 0, 1, MOST}) {
            PatchedMachine x = new PatchedMachine();
            Build.constant(x, 0, number);
            Build.fields(x, 1, new int[] {5, 1, -1});
            for (int kind = 1; kind < 5; kind++) {
                Build.method(x, kind, 0, Build.locals(1, 1), 0, ending(kind == 4 ? 1 : kind));
            }
            Build.method(x, 2, 0, Build.locals(1, 1), 0, ending(4));
            Build.commit(x);
            due.is("before any run", 0, x.result());
            for (int m = 1; m <= 4; m++) {
                Build.start(x, 0);
                due.is("while it goes on", 0, x.result());
                x.run(1);
                due.is("before it returns", 0, x.result());
                x.run(1);
                due.is("the result", number, x.result());
                due.is("a start that is refused", false, x.start(5));
                due.is("the result still", number, x.result());
                Build.start(x, m);
                x.run(300);
                due.is("a run that has not returned", 0, x.result());
                due.is("its end", new int[] {0, 3, 5, 4, 3}[m], x.status());
            }
        }
    }

    private static void frameOfEveryDepth(Due due) {
        PatchedMachine x = calling(7);
        for (int depth = 1; depth <= 8; depth++) {
            due.is("depth", depth, x.depth());
            for (int k : new int[] {LEAST, -2, -1, depth, depth + 1, 8, 9, 256, MOST}) {
                due.is("frame(" + k + ") of " + depth, -1, x.frame(k));
            }
            for (int k = 0; k < depth; k++) {
                int want = k == depth - 1 ? depth == 1 ? 0 : 2 : k == 0 ? 100 : 107;
                due.is("frame(" + k + ") of " + depth, want, x.frame(k));
            }
            x.run(depth == 1 ? 2 : 7);
        }
        due.is("DEEP", 5, x.status());
        for (int k = -1; k <= 8; k++) {
            due.is("frame(" + k + ") of none", -1, x.frame(k));
        }
    }

    /** Numbers 1, 2, .. over several runs; the latest sixteen can be asked for. */
    private static void outputsOfAllRuns(Due due) {
        for (int count = 0; count <= 40; count++) {
            PatchedMachine x = new PatchedMachine();
            for (int first = 1; first <= count; first += 5) {
                x.head(0, 0, 0, 0);
                for (int number = first; number < first + 5 && number <= count; number++) {
                    x.code(0, Build.PUSH, number, 0);
                    x.code(0, Build.OUT, 0, 0);
                }
                x.code(0, Build.PUSH, 0, 0);
                x.code(0, Build.RETURN, 0, 0);
                Build.commit(x);
                Build.start(x, 0);
                x.run(300);
            }
            due.is("numbers put out", count, x.outputs());
            for (int back = 0; back <= 15; back++) {
                due.is("output(" + back + ") of " + count, back < count ? count - back : 0, x.output(back));
            }
            for (int back : new int[] {LEAST, -16, -1, 16, 17, 31, 32, 256, MOST}) {
                due.is("output(" + back + ") of " + count, 0, x.output(back));
            }
        }
    }

    /** Each round makes an object of class 1, tells its fields (methods 1 and 3), and fills them (method 2). */
    private static void newObjectsInPlacesUsedBefore(Due due) {
        PatchedMachine x = new PatchedMachine();
        Build.fields(x, 1, new int[] {6, 0, -1}, new int[] {7, 1, -1}, new int[] {8, 2, -1}, new int[] {9, 3, -1});
        Build.method(x, 1, 1, 1, 0, LOAD, Build.op(Build.GET, 1, 6), OUT,
                LOAD, Build.op(Build.GET, 1, 7), Build.op(Build.NULL, 1), Build.op(Build.SAME, 1), OUT,
                LOAD, Build.op(Build.GET, 1, 8), Build.op(Build.NULL, 2), Build.op(Build.SAME, 2), RETURN);
        Build.method(x, 3, 1, 1, 0, LOAD, Build.op(Build.GET, 1, 9), Build.op(Build.NULL, 3),
                Build.op(Build.SAME, 3), RETURN);
        Build.method(x, 2, 1, 1, 0, LOAD, Build.op(Build.PUSH, 5), Build.op(Build.PUT, 1, 6),
                LOAD, LOAD, Build.op(Build.PUT, 1, 7), LOAD, Build.op(Build.NEW, 2), Build.op(Build.PUT, 1, 8),
                LOAD, Build.op(Build.NEW, 3), Build.op(Build.PUT, 1, 9), Build.op(Build.PUSH, 2), RETURN);
        Build.method(x, 0, 0, 1, 0, Build.op(Build.NEW, 1), Build.op(Build.STORE, 0), LOAD, Build.op(Build.CALL, 1),
                OUT, LOAD, Build.op(Build.CALL, 3), OUT, LOAD, Build.op(Build.CALL, 2), OUT, Build.op(Build.JUMP, 0));
        Build.commit(x);
        Build.start(x, 0);
        int[] want = {2, 1, 1, 1, 0};
        for (int round = 1; round <= 20; round++) {
            due.is("steps of round " + round, 44, x.run(44));
            due.is("numbers behind round " + round, 5 * round, x.outputs());
            for (int back = 0; back < 5; back++) {
                due.is("number " + back + " of round " + round, want[back], x.output(back));
            }
        }
    }

    /** A run that ends with five on the stacks of its frames leaves the next one its own six. */
    private static void stacksLeftByAnEnd(Due due) {
        int[] add = Build.op(Build.ADD);
        PatchedMachine x = new PatchedMachine();
        Build.method(x, 0, 0, 0, 0, PUSH, PUSH, PUSH, PUSH, PUSH, Build.op(Build.CALL, 0), add, add, add, add, add,
                RETURN);
        Build.method(x, 1, 1, 0, 0, LOAD, PUSH, PUSH, PUSH, PUSH, Build.op(Build.CALL, 2), add, add, add, add, add,
                RETURN);
        Build.method(x, 2, 0, 0, 0, Build.op(Build.PUSH, 1), Build.op(Build.PUSH, 20), Build.op(Build.PUSH, 300),
                Build.op(Build.PUSH, 4000), Build.op(Build.PUSH, 50000), Build.op(Build.PUSH, 600000),
                add, add, add, add, add, RETURN);
        Build.method(x, 3, 0, 0, 0, Build.op(Build.PUSH, 7), Build.op(Build.CALL, 1), RETURN);
        Build.commit(x);
        for (int round = 0; round < 3; round++) {
            Build.start(x, 0);
            due.is("to the ninth frame", 48, x.run(300));
            due.is("DEEP", 5, x.status());
            Build.start(x, 3);
            x.run(300);
            due.is("what lay below and all six", 654332, x.result());
        }
    }

    /** With the constructor's, 512 calls and no more. */
    private static void allCallsThatArePromised(Due due) {
        PatchedMachine x = new PatchedMachine();
        Build.method(x, 0, 0, 0, 0, Build.op(Build.LOAD, 0), OUT, LOAD, PUSH, Build.op(Build.ADD),
                Build.op(Build.STORE, 0), LOAD, OUT, Build.op(Build.JUMP, 2));
        Build.commit(x);
        Build.start(x, 0);
        for (int i = 0; i < 490; i++) {
            due.is("run " + i, 300, x.run(300));
        }
        // The first number is step 2, and each one more is 7 steps later, at the sixth of them.
        int count = 1 + (490 * 300 - 2 + 1) / 7;
        due.is("numbers put out", count, x.outputs());
        due.is("the latest", count - 1, x.output(0));
        due.is("the earliest that is kept", count - 16, x.output(15));
        due.is("no earlier one", 0, x.output(16));
        due.is("still going on", 1, x.status());
    }
}
