import java.util.ArrayList;
import java.util.Arrays;
import java.util.List;

/** SOUND: each way in which a place is bad, at its edges, and which place is the first. */
public final class SoundEdgeTest {
    private static final int MOST_STACK = 6;
    private static final int[] RETURN = Build.op(Build.RETURN);
    private static final int[] PUSH = Build.op(Build.PUSH, 1);
    private static final int[] OUT = Build.op(Build.OUT);
    private static final int[] BACK = Build.op(Build.JUMP, 0);

    /** One instruction with the types that it takes, as they lie on the stack, and those that it puts. */
    private record Kind(int[] line, String taken, String put, boolean needsEmpty) {
        String name() {
            return "op " + line[0] + " " + line[1] + " " + line[2];
        }
    }

    public static void main(String[] args) {
        Due due = new Due();
        everyOpOnEveryStack(due);
        returnTakesTheResult(due);
        noOpMayBeTheLast(due);
        behindJumpAndReturnTheStackIsEmpty(due);
        namedPlacesNeedAnEmptyStack(due);
        namedPlacesOfAnotherMethodDoNotCount(due);
        jumpsNameAPlaceOfTheCode(due);
        getAndPutNeedAField(due);
        callsNeedADefinedMethod(due);
        notDefinedIsNotGoneThrough(due);
        theFirstBadPlace(due);
        theLeastOfTwoBadPlaces(due);
        due.end();
    }

    /**
     * Every class has fields 0 to 3 of types 0 to 3; method 1 takes 1, 2, 3 and puts 0, method 2 takes 0 and puts 3,
     * method 3 takes nothing and puts 1, method 4 takes 2, 0 and puts 2.
     */
    private static PatchedMachine surroundings() {
        PatchedMachine x = new PatchedMachine();
        for (int c = 1; c <= 3; c++) {
            Build.fields(x, c, new int[] {0, 0, -1}, new int[] {1, 1, -1}, new int[] {2, 2, -1}, new int[] {3, 3, -1});
        }
        Build.method(x, 1, 3, Build.locals(1, 2, 3), 0, PUSH, RETURN);
        Build.method(x, 2, 1, Build.locals(0, 1, 1, 1), 3, Build.op(Build.NULL, 3), RETURN);
        Build.method(x, 3, 0, Build.locals(3, 3, 3, 3), 1, Build.op(Build.NULL, 1), RETURN);
        Build.method(x, 4, 2, Build.locals(2, 0), 2, Build.op(Build.NULL, 2), RETURN);
        return x;
    }

    /** Method 0 has locals 0 to 3 of types 0 to 3. */
    private static int commitOf(int result, int[]... code) {
        PatchedMachine x = surroundings();
        Build.method(x, 0, 0, Build.locals(0, 1, 2, 3), result, code);
        return x.commit();
    }

    private static List<Kind> kinds() {
        List<Kind> kinds = new ArrayList<>();
        kinds.add(new Kind(PUSH, "", "0", false));
        for (int op = Build.ADD; op <= Build.LESS; op++) {
            kinds.add(new Kind(Build.op(op), "00", "0", false));
        }
        kinds.add(new Kind(OUT, "0", "", false));
        kinds.add(new Kind(BACK, "", "", true));
        kinds.add(new Kind(Build.op(Build.ZERO, 0), "0", "", true));
        kinds.add(new Kind(Build.op(Build.CALL, 1), "123", "0", false));
        kinds.add(new Kind(Build.op(Build.CALL, 2), "0", "3", false));
        kinds.add(new Kind(Build.op(Build.CALL, 3), "", "1", false));
        kinds.add(new Kind(Build.op(Build.CALL, 4), "20", "2", false));
        for (int local = 0; local <= 3; local++) {
            kinds.add(new Kind(Build.op(Build.LOAD, local), "", "" + local, false));
            kinds.add(new Kind(Build.op(Build.STORE, local), "" + local, "", false));
        }
        for (int c = 1; c <= 3; c++) {
            kinds.add(new Kind(Build.op(Build.NULL, c), "", "" + c, false));
            kinds.add(new Kind(Build.op(Build.NEW, c), "", "" + c, false));
            kinds.add(new Kind(Build.op(Build.SAME, c), "" + c + c, "0", false));
            for (int name = 0; name <= 3; name++) {
                kinds.add(new Kind(Build.op(Build.GET, c, name), "" + c, "" + name, false));
                kinds.add(new Kind(Build.op(Build.PUT, c, name), "" + c + name, "", false));
            }
        }
        return kinds;
    }

    /** Stacks of none to six, the upper three of all types: too few, of another type, a seventh, not empty. */
    private static void everyOpOnEveryStack(Due due) {
        for (Kind kind : kinds()) {
            for (int height = 0; height <= MOST_STACK; height++) {
                int free = Math.min(3, height);
                for (int number = 0; number < 1 << 2 * free; number++) {
                    StringBuilder stack = new StringBuilder("000000".substring(0, height - free));
                    for (int i = 0; i < free; i++) {
                        stack.append(number >> 2 * i & 3);
                    }
                    look(due, kind, stack.toString());
                }
            }
        }
    }

    private static void look(Due due, Kind kind, String stack) {
        String left = left(kind, stack);
        List<int[]> code = new ArrayList<>();
        for (char type : stack.toCharArray()) {
            code.add(putting(type - '0'));
        }
        code.add(kind.line());
        for (int i = left == null ? 0 : left.length(); i > 0; i--) {
            code.add(Build.op(Build.STORE, left.charAt(i - 1) - '0'));
        }
        code.add(BACK);
        int want = left == null ? 1 + stack.length() : 0;
        due.is(kind.name() + " on " + stack, want, commitOf(0, code.toArray(new int[0][])));
    }

    private static int[] putting(int type) {
        return Build.op(type == 0 ? Build.PUSH : Build.NULL, type);
    }

    /** The stack behind the instruction, null if its place is bad. */
    private static String left(Kind kind, String stack) {
        if (!stack.endsWith(kind.taken())) {
            return null;
        }
        String below = stack.substring(0, stack.length() - kind.taken().length());
        if (kind.needsEmpty() && !below.isEmpty()) {
            return null;
        }
        String left = below + kind.put();
        return left.length() > MOST_STACK ? null : left;
    }

    private static void returnTakesTheResult(Due due) {
        for (int result = 0; result <= 3; result++) {
            due.is("RETURN " + result + " of nothing", 1, commitOf(result, RETURN));
            for (int type = 0; type <= 3; type++) {
                due.is("RETURN " + result + " of " + type, type == result ? 0 : 2,
                        commitOf(result, putting(type), RETURN));
                due.is("RETURN " + result + " above " + type, 3,
                        commitOf(result, putting(type), putting(result), RETURN));
            }
        }
    }

    /** Each on the stack that it takes, so that only its being the last is bad. */
    private static void noOpMayBeTheLast(Due due) {
        for (Kind kind : kinds()) {
            List<int[]> code = new ArrayList<>();
            for (char type : kind.taken().toCharArray()) {
                code.add(putting(type - '0'));
            }
            code.add(kind.line());
            boolean leads = kind.line()[0] == Build.JUMP;
            due.is(kind.name() + " as the last", leads ? 0 : code.size(), commitOf(0, code.toArray(new int[0][])));
            code.add(BACK);
            boolean empty = kind.put().isEmpty();
            due.is(kind.name() + " as the last but one", empty ? 0 : code.size(),
                    commitOf(0, code.toArray(new int[0][])));
        }
        due.is("RETURN as the last", 0, commitOf(0, PUSH, RETURN));
        due.is("RETURN as the last but one", 3, commitOf(0, PUSH, RETURN, PUSH));
    }

    private static void behindJumpAndReturnTheStackIsEmpty(Due due) {
        due.is("OUT behind RETURN", 3, commitOf(0, PUSH, RETURN, OUT, BACK));
        due.is("OUT behind JUMP", 2, commitOf(0, BACK, OUT, BACK));
        due.is("six behind RETURN, of which one is left for the last", 14, commitOf(0, PUSH, RETURN,
                PUSH, PUSH, PUSH, PUSH, PUSH, PUSH, OUT, OUT, OUT, OUT, OUT, BACK));
        due.is("a seventh behind RETURN", 9, commitOf(0, PUSH, RETURN,
                PUSH, PUSH, PUSH, PUSH, PUSH, PUSH, PUSH, OUT, OUT, OUT, OUT, BACK));
        due.is("a place behind RETURN may be named", 0, commitOf(0, PUSH, Build.op(Build.ZERO, 4), PUSH, RETURN, PUSH,
                RETURN));
        due.is("a place behind JUMP may be named", 0, commitOf(0, Build.op(Build.JUMP, 2), Build.op(Build.JUMP, 1),
                Build.op(Build.JUMP, 1)));
        due.is("at place 0 it is empty", 1, commitOf(0, OUT, BACK));
        due.is("also if place 0 is named by the last", 0, commitOf(0, PUSH, OUT, BACK));
    }

    /** PUSH and OUT in turn: the stack is empty at even places alone; a JUMP at place 12 names one of them. */
    private static void namedPlacesNeedAnEmptyStack(Due due) {
        for (int named = 0; named <= 13; named++) {
            int[][] code = new int[14][];
            for (int place = 0; place < 12; place++) {
                code[place] = place % 2 == 0 ? PUSH : OUT;
            }
            code[12] = Build.op(Build.JUMP, named);
            code[13] = BACK;
            due.is("JUMP from behind to " + named, named < 12 && named % 2 == 1 ? 1 + named : 0, commitOf(0, code));
        }
        for (int named = 0; named <= 13; named++) {
            int[][] code = new int[14][];
            code[0] = PUSH;
            code[1] = Build.op(Build.ZERO, named);
            for (int place = 2; place < 12; place++) {
                code[place] = place % 2 == 0 ? PUSH : OUT;
            }
            code[12] = BACK;
            code[13] = BACK;
            due.is("ZERO to " + named, named < 12 && named % 2 == 1 ? 1 + named : 0, commitOf(0, code));
        }
        due.is("JUMP from before", 3, commitOf(0, Build.op(Build.JUMP, 2), PUSH, OUT, BACK));
        due.is("a place that is bad by two jumps", 2, commitOf(0, PUSH, OUT, Build.op(Build.JUMP, 1),
                Build.op(Build.JUMP, 1)));
    }

    /** Neither x of another op nor a jump of another method names a place. */
    private static void namedPlacesOfAnotherMethodDoNotCount(Due due) {
        PatchedMachine x = surroundings();
        Build.method(x, 0, 0, 0, 0, PUSH, OUT, BACK);
        Build.method(x, 5, 0, 0, 0, Build.op(Build.JUMP, 1), BACK);
        due.is("a jump of another method", 0, x.commit());
        due.is("x of other ops", 0, commitOf(0, PUSH, PUSH, Build.op(Build.STORE, 0), Build.op(Build.LOAD, 1),
                Build.op(Build.NULL, 1), Build.op(Build.SAME, 1), OUT, OUT, Build.op(Build.NEW, 1),
                Build.op(Build.STORE, 1), Build.op(Build.CALL, 3), Build.op(Build.STORE, 1), BACK));
    }

    /** Codes of 1 to 14 JUMPs, all to place 0 but one, which names each of 0 to 13. */
    private static void jumpsNameAPlaceOfTheCode(Due due) {
        for (int length = 1; length <= 14; length++) {
            for (int named = 0; named <= 13; named++) {
                for (int place = 0; place < length; place++) {
                    int[][] code = new int[length][];
                    Arrays.fill(code, BACK);
                    code[place] = Build.op(Build.JUMP, named);
                    due.is("JUMP at " + place + " of " + length + " to " + named, named < length ? 0 : 1 + place,
                            commitOf(0, code));
                }
                if (length >= 3 && named != 1) {
                    int[][] code = new int[length][];
                    Arrays.fill(code, BACK);
                    code[0] = PUSH;
                    code[1] = Build.op(Build.ZERO, named);
                    due.is("ZERO in " + length + " to " + named, named < length ? 0 : 2, commitOf(0, code));
                }
            }
        }
    }

    /** Class c has the names 0 and 9 alone, first of all and then in the patch that takes them away one by one. */
    private static void getAndPutNeedAField(Due due) {
        for (int c = 1; c <= 3; c++) {
            for (int name = 0; name <= 9; name++) {
                for (int other = 1; other <= 3; other++) {
                    PatchedMachine x = new PatchedMachine();
                    Build.fields(x, c, new int[] {0, 0, -1}, new int[] {9, 0, -1});
                    boolean isThere = other == c && (name == 0 || name == 9);
                    int[] object = Build.op(Build.NULL, other);
                    Build.method(x, 0, 0, 0, 0, object, Build.op(Build.GET, other, name), RETURN);
                    due.is("GET " + other + " " + name, isThere ? 0 : 2, x.commit());
                    x.drop();
                    x.layout(c);
                    x.field(c, 0, 0, -1);
                    x.field(c, 9, 0, -1);
                    Build.method(x, 0, 0, 0, 0, object, PUSH, Build.op(Build.PUT, other, name), PUSH, RETURN);
                    due.is("PUT " + other + " " + name, isThere ? 0 : 3, x.commit());
                    x.layout(c);
                    due.is("PUT " + other + " " + name + " of no field", 3, x.commit());
                }
            }
        }
    }

    private static void callsNeedADefinedMethod(Due due) {
        for (int m = 0; m <= 5; m++) {
            int caller = (m + 5) % 6;
            PatchedMachine x = new PatchedMachine();
            Build.method(x, caller, 0, 0, 0, PUSH, OUT, Build.op(Build.CALL, m), RETURN);
            due.is("CALL of " + m + ", never written", 3 + 100 * caller, x.commit());
            x.head(m, 0, 0, 0);
            due.is("CALL of " + m + ", a head", 3 + 100 * caller, x.commit());
            x.code(m, Build.JUMP, 0, 0);
            due.is("CALL of " + m + ", defined", 0, x.commit());
            x.head(m, 0, 0, 0);
            due.is("CALL of " + m + ", a head again", 3 + 100 * caller, x.commit());
            Build.method(x, m, 0, 0, 0, Build.op(Build.CALL, m), RETURN);
            due.is("CALL of itself", 0, x.commit());
        }
    }

    /** A head alone is not bad, whatever its types are; nor is a method that has never been written. */
    private static void notDefinedIsNotGoneThrough(Due due) {
        PatchedMachine x = new PatchedMachine();
        for (int m = 0; m <= 5; m++) {
            x.head(m, 3, 255, 3);
        }
        due.is("six heads", 0, x.commit());
        Build.method(x, 2, 0, 0, 0, RETURN);
        due.is("one of them with a bad code", 201, x.commit());
        x.head(2, 0, 0, 0);
        due.is("its code taken away", 0, x.commit());
    }

    /** The code is JUMPs but for one ADD, which takes of an empty stack. */
    private static void badAt(PatchedMachine x, int m, int place) {
        x.head(m, 0, 0, 0);
        for (int i = 0; i < 14; i++) {
            x.code(m, i == place ? Build.ADD : Build.JUMP, 0, 0);
        }
    }

    private static void theFirstBadPlace(Due due) {
        for (int m = 0; m <= 5; m++) {
            for (int place = 0; place <= 13; place++) {
                PatchedMachine x = new PatchedMachine();
                for (int other = 0; other <= 5; other++) {
                    Build.constant(x, other, other);
                }
                badAt(x, m, place);
                due.is("bad at " + m + ", " + place, 1 + 100 * m + place, x.commit());
                due.is("and again", 1 + 100 * m + place, x.commit());
            }
        }
    }

    private static void theLeastOfTwoBadPlaces(Due due) {
        for (int m = 0; m <= 5; m++) {
            for (int other = 0; other <= 5; other++) {
                for (int place = 0; place <= 13; place += 13) {
                    PatchedMachine x = new PatchedMachine();
                    badAt(x, m, place);
                    if (other != m) {
                        badAt(x, other, 13 - place);
                    }
                    due.is("bad in " + m + " and " + other,
                            other < m ? 1 + 100 * other + 13 - place : 1 + 100 * m + place, x.commit());
                }
            }
        }
        for (int place = 0; place <= 13; place++) {
            for (int second = place; second <= 13; second++) {
                PatchedMachine x = new PatchedMachine();
                x.head(5, 0, 0, 0);
                for (int i = 0; i < 14; i++) {
                    x.code(5, i == place || i == second ? Build.ADD : Build.JUMP, 0, 0);
                }
                due.is("bad at " + place + " and " + second, 501 + place, x.commit());
            }
        }
    }
}
