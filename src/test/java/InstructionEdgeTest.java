/** INSTRUCTIONS: the bounds of x and y of each op, and what each does at its bounds. */
public final class InstructionEdgeTest {
    private static final int LEAST = Integer.MIN_VALUE;
    private static final int MOST = Integer.MAX_VALUE;
    private static final int[] RETURN = Build.op(Build.RETURN);
    private static final int[] OUT = Build.op(Build.OUT);
    private static final int[] STRANGE = {LEAST, LEAST + 1, -257, -256, -255, -2, -1, 0, 1, 2, 3, 4, 5, 6, 7, 8, 9, 10,
        11, 12, 13, 14, 15, 16, 17, 31, 32, 33, 64, 255, 256, 257, 65536, 65537, MOST - 1, MOST};

    public static void main(String[] args) {
        Due due = new Due();
        opsAreZeroToSixteen(due);
        operandsHaveBounds(due);
        pushTakesAnyInt(due);
        nullOfEveryClass(due);
        everyLocalIsLoadedAndStored(due);
        theUpperOneIsTakenFirst(due);
        arithmeticWraps(due);
        lessIsLessAlone(due);
        jumpsToTheFirstAndTheLastPlace(due);
        zeroJumpsAtZeroAlone(due);
        newObjectsAreEmpty(due);
        everyFieldIsPutAndGot(due);
        everyMethodIsCalled(due);
        theLastParameterIsTakenFirst(due);
        sameOfEveryClass(due);
        outTakesAnyInt(due);
        due.end();
    }

    private static void opsAreZeroToSixteen(Due due) {
        for (int op : STRANGE) {
            PatchedMachine x = new PatchedMachine();
            x.head(0, 0, 0, 0);
            boolean takesZero = op >= 0 && op <= 16 && op != 1 && !(op >= 10 && op <= 12) && op != 15;
            due.is("op " + op + " with 0", takesZero, x.code(0, op, 0, 0));
            x.head(0, 0, 0, 0);
            boolean takesOne = op >= 0 && op <= 3 || op >= 8 && op <= 13 || op == 15;
            due.is("op " + op + " with 1", takesOne, x.code(0, op, 1, 0));
        }
    }

    /** Behind each instruction that is refused the code is as long as before. */
    private static void operandsHaveBounds(Due due) {
        int[] leastX = {LEAST, 1, 0, 0, 0, 0, 0, 0, 0, 0, 1, 1, 1, 0, 0, 1, 0};
        int[] mostX = {MOST, 3, 3, 3, 0, 0, 0, 0, 13, 13, 3, 3, 3, 5, 0, 3, 0};
        for (int op = 0; op <= 16; op++) {
            int mostY = op == Build.GET || op == Build.PUT ? 9 : 0;
            for (int operand : STRANGE) {
                boolean fitsX = operand >= leastX[op] && operand <= mostX[op];
                boolean fitsY = operand >= 0 && operand <= mostY;
                due.is("op " + op + " x " + operand, fitsX, isTaken(due, op, operand, 0));
                due.is("op " + op + " x " + operand + " y " + mostY, fitsX, isTaken(due, op, operand, mostY));
                due.is("op " + op + " y " + operand, fitsY, isTaken(due, op, leastX[op], operand));
                due.is("op " + op + " y " + operand + " x " + mostX[op], fitsY, isTaken(due, op, mostX[op], operand));
            }
        }
    }

    private static boolean isTaken(Due due, int op, int x, int y) {
        PatchedMachine machine = new PatchedMachine();
        machine.head(3, 0, 0, 0);
        boolean taken = machine.code(3, op, x, y);
        int room = 0;
        while (room < 20 && machine.code(3, Build.JUMP, 0, 0)) {
            room++;
        }
        due.is("room behind op " + op + " " + x + " " + y, taken ? 13 : 14, room);
        return taken;
    }

    /** What a method 0 of these locals and this code returns; methods 1 to 5 and the classes are those of the draft. */
    private static int resultOf(PatchedMachine x, int locals, int[]... code) {
        Build.method(x, 0, 0, locals, 0, code);
        Build.commit(x);
        Build.start(x, 0);
        x.run(300);
        return x.status() == 2 ? x.result() : 1000000 + x.status();
    }

    private static void pushTakesAnyInt(Due due) {
        for (int number : STRANGE) {
            due.is("PUSH " + number, number, resultOf(new PatchedMachine(), 0, Build.op(Build.PUSH, number), RETURN));
        }
    }

    private static void nullOfEveryClass(Due due) {
        for (int c = 1; c <= 3; c++) {
            due.is("NULL " + c + " is null", 1, resultOf(new PatchedMachine(), c, Build.op(Build.NULL, c),
                    Build.op(Build.LOAD, 0), Build.op(Build.SAME, c), RETURN));
            PatchedMachine x = new PatchedMachine();
            Build.fields(x, c, new int[] {1, 0, -1});
            due.is("NULL " + c + " has no field", 1000003,
                    resultOf(x, 0, Build.op(Build.NULL, c), Build.op(Build.GET, c, 1), RETURN));
        }
    }

    private static void everyLocalIsLoadedAndStored(Due due) {
        for (int local = 0; local < 4; local++) {
            for (int other = 0; other < 4; other++) {
                due.is("local " + other + " behind STORE " + local, other == local ? 71 : 0,
                        resultOf(new PatchedMachine(), 0, Build.op(Build.PUSH, 71), Build.op(Build.STORE, local),
                                Build.op(Build.LOAD, other), RETURN));
            }
            for (int c = 1; c <= 3; c++) {
                objectsInLocals(due, c, local);
            }
        }
    }

    private static void objectsInLocals(Due due, int c, int local) {
        for (int other = 0; other < 4; other++) {
            due.is("local " + other + " of class " + c + " is null behind STORE " + local, other == local ? 0 : 1,
                    resultOf(new PatchedMachine(), Build.locals(c, c, c, c), Build.op(Build.NEW, c),
                            Build.op(Build.STORE, local), Build.op(Build.LOAD, other), Build.op(Build.NULL, c),
                            Build.op(Build.SAME, c), RETURN));
        }
    }

    private static int calculated(int op, int a, int b) {
        return resultOf(new PatchedMachine(), 0, Build.op(Build.PUSH, a), Build.op(Build.PUSH, b), Build.op(op), RETURN);
    }

    private static void theUpperOneIsTakenFirst(Due due) {
        due.is("10 - 3", 7, calculated(Build.SUB, 10, 3));
        due.is("3 - 10", -7, calculated(Build.SUB, 3, 10));
        due.is("3 < 10", 1, calculated(Build.LESS, 3, 10));
        due.is("10 < 3", 0, calculated(Build.LESS, 10, 3));
        due.is("of three the lowest is left", 100, resultOf(new PatchedMachine(), 0, Build.op(Build.PUSH, 100),
                Build.op(Build.PUSH, 3), Build.op(Build.PUSH, 3), Build.op(Build.SUB), Build.op(Build.SUB), RETURN));
    }

    private static void arithmeticWraps(Due due) {
        due.is("most + 1", LEAST, calculated(Build.ADD, MOST, 1));
        due.is("least + -1", MOST, calculated(Build.ADD, LEAST, -1));
        due.is("least + least", 0, calculated(Build.ADD, LEAST, LEAST));
        due.is("most + most", -2, calculated(Build.ADD, MOST, MOST));
        due.is("most + 0", MOST, calculated(Build.ADD, MOST, 0));
        due.is("least - 1", MOST, calculated(Build.SUB, LEAST, 1));
        due.is("most - -1", LEAST, calculated(Build.SUB, MOST, -1));
        due.is("0 - least", LEAST, calculated(Build.SUB, 0, LEAST));
        due.is("-1 - least", MOST, calculated(Build.SUB, -1, LEAST));
        due.is("least - least", 0, calculated(Build.SUB, LEAST, LEAST));
        due.is("65536 * 65536", 0, calculated(Build.MUL, 65536, 65536));
        due.is("65536 * 32768", LEAST, calculated(Build.MUL, 65536, 32768));
        due.is("46341 * 46341", -2147479015, calculated(Build.MUL, 46341, 46341));
        due.is("46340 * 46340", 2147395600, calculated(Build.MUL, 46340, 46340));
        due.is("least * -1", LEAST, calculated(Build.MUL, LEAST, -1));
        due.is("most * most", 1, calculated(Build.MUL, MOST, MOST));
        due.is("most * 2", -2, calculated(Build.MUL, MOST, 2));
    }

    private static void lessIsLessAlone(Due due) {
        int[] numbers = {LEAST, LEAST + 1, -1, 0, 1, MOST - 1, MOST};
        for (int i = 0; i < numbers.length; i++) {
            for (int j = 0; j < numbers.length; j++) {
                due.is(numbers[i] + " < " + numbers[j], i < j ? 1 : 0,
                        calculated(Build.LESS, numbers[i], numbers[j]));
            }
        }
    }

    /** A code of fourteen: from place 0 to 13, and from there back to 0. */
    private static void jumpsToTheFirstAndTheLastPlace(Due due) {
        PatchedMachine x = new PatchedMachine();
        x.head(2, 0, 0, 0);
        x.code(2, Build.JUMP, 13, 0);
        for (int place = 1; place < 13; place++) {
            x.code(2, Build.JUMP, place, 0);
        }
        x.code(2, Build.JUMP, 0, 0);
        Build.commit(x);
        Build.start(x, 2);
        x.run(1);
        due.is("JUMP 13", 213, x.frame(0));
        x.run(1);
        due.is("JUMP 0", 200, x.frame(0));
        x.run(1);
        due.is("JUMP 13 again", 213, x.frame(0));
        for (int number : new int[] {0, 1}) {
            PatchedMachine y = new PatchedMachine();
            y.head(2, 0, 0, 0);
            y.code(2, Build.PUSH, number, 0);
            y.code(2, Build.ZERO, 13, 0);
            for (int place = 2; place < 11; place++) {
                y.code(2, Build.JUMP, 11, 0);
            }
            y.code(2, Build.PUSH, 0, 0);
            y.code(2, Build.ZERO, 0, 0);
            y.code(2, Build.JUMP, 11, 0);
            Build.commit(y);
            Build.start(y, 2);
            y.run(2);
            due.is("ZERO 13 of " + number, number == 0 ? 213 : 202, y.frame(0));
            y.run(3);
            due.is("ZERO 0", 200, y.frame(0));
        }
    }

    private static void zeroJumpsAtZeroAlone(Due due) {
        for (int number : STRANGE) {
            due.is("ZERO of " + number, number == 0 ? 5 : 6, resultOf(new PatchedMachine(), 0,
                    Build.op(Build.PUSH, number), Build.op(Build.ZERO, 4), Build.op(Build.PUSH, 6), RETURN,
                    Build.op(Build.PUSH, 5), RETURN));
        }
    }

    /** Every field of a new object, with a type for each: the ints are 0, the others null. */
    private static void newObjectsAreEmpty(Due due) {
        for (int c = 1; c <= 3; c++) {
            for (int type = 0; type <= 3; type++) {
                PatchedMachine x = new PatchedMachine();
                Build.fields(x, c, new int[] {9, 0, -1}, new int[] {8, 1, -1}, new int[] {7, 2, -1},
                        new int[] {6, 3, -1});
                int[] make = Build.op(Build.NEW, c);
                int[] get = Build.op(Build.GET, c, 9 - type);
                int got = type == 0 ? resultOf(x, 0, make, get, RETURN)
                        : resultOf(x, 0, make, get, Build.op(Build.NULL, type), Build.op(Build.SAME, type), RETURN);
                due.is("field of type " + type + " of a new object of class " + c, type == 0 ? 0 : 1, got);
            }
        }
    }

    /** For each class and name: the field stands at each place among four, and no other is changed. */
    private static void everyFieldIsPutAndGot(Due due) {
        for (int c = 1; c <= 3; c++) {
            for (int name = 0; name <= 9; name++) {
                for (int k = 0; k < 4; k++) {
                    PatchedMachine x = new PatchedMachine();
                    x.layout(c);
                    for (int i = 0; i < 4; i++) {
                        x.field(c, i == k ? name : (name + 1 + i) % 10, 0, -1);
                    }
                    int other = (name + 1 + (k + 1) % 4) % 10;
                    int[] load = Build.op(Build.LOAD, 1);
                    int got = resultOf(x, Build.locals(0, c), Build.op(Build.NEW, c), Build.op(Build.STORE, 1),
                            load, Build.op(Build.PUSH, 8), Build.op(Build.PUT, c, other),
                            load, Build.op(Build.PUSH, -9), Build.op(Build.PUT, c, name),
                            load, Build.op(Build.GET, c, other), Build.op(Build.OUT),
                            load, Build.op(Build.GET, c, name), RETURN);
                    due.is("field " + name + " at place " + k + " of class " + c, -9, got);
                    due.is("another field of it", 8, x.output(0));
                }
            }
        }
    }

    private static void everyMethodIsCalled(Due due) {
        for (int m = 0; m <= 5; m++) {
            PatchedMachine x = new PatchedMachine();
            int caller = (m + 1) % 6;
            Build.constant(x, m, 80 + m);
            Build.method(x, caller, 0, 0, 0, Build.op(Build.CALL, m), RETURN);
            Build.commit(x);
            Build.start(x, caller);
            x.run(1);
            due.is("the frame of method " + m, 100 * m, x.frame(0));
            x.run(300);
            due.is("its result", 80 + m, x.result());
        }
    }

    private static void theLastParameterIsTakenFirst(Due due) {
        for (int local = 0; local < 3; local++) {
            PatchedMachine x = new PatchedMachine();
            Build.method(x, 1, 3, 0, 0, Build.op(Build.LOAD, local), RETURN);
            due.is("parameter " + local, 10 * (local + 1), resultOf(x, 0, Build.op(Build.PUSH, 10),
                    Build.op(Build.PUSH, 20), Build.op(Build.PUSH, 30), Build.op(Build.CALL, 1), RETURN));
        }
    }

    private static void sameOfEveryClass(Due due) {
        for (int c = 1; c <= 3; c++) {
            int[] make = Build.op(Build.NEW, c);
            int[] none = Build.op(Build.NULL, c);
            int[] load = Build.op(Build.LOAD, 0);
            int[] same = Build.op(Build.SAME, c);
            due.is("one object", 1, resultOf(new PatchedMachine(), c, make, Build.op(Build.STORE, 0), load, load, same,
                    RETURN));
            due.is("two objects", 0, resultOf(new PatchedMachine(), c, make, make, same, RETURN));
            due.is("null and null", 1, resultOf(new PatchedMachine(), c, none, none, same, RETURN));
            due.is("an object above null", 0, resultOf(new PatchedMachine(), c, none, make, same, RETURN));
            due.is("null above an object", 0, resultOf(new PatchedMachine(), c, make, none, same, RETURN));
        }
    }

    private static void outTakesAnyInt(Due due) {
        for (int number : STRANGE) {
            PatchedMachine x = new PatchedMachine();
            due.is("what lies below is left", 12, resultOf(x, 0, Build.op(Build.PUSH, 12),
                    Build.op(Build.PUSH, number), OUT, RETURN));
            due.is("OUT of " + number, number, x.output(0));
            due.is("one number", 1, x.outputs());
        }
    }
}
