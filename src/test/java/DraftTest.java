/** Promises 2 to 6: layout, field, head, code, drop. */
public final class DraftTest {
    private static final int LEAST = Integer.MIN_VALUE;
    private static final int MOST = Integer.MAX_VALUE;

    public static void main(String[] args) {
        Due due = new Due();
        layoutTakesClasses(due);
        layoutTakesFieldsAway(due);
        fieldRefuses(due);
        fieldLooksAtTheNewest(due);
        fieldsMayShareASource(due);
        headRefuses(due);
        headUnpacksLocals(due);
        headTakesCodeAway(due);
        codeNeedsAHead(due);
        codeTakesFourteen(due);
        codeLooksAtOperands(due);
        dropGoesBack(due);
        due.end();
    }

    private static void layoutTakesClasses(Due due) {
        PatchedMachine x = new PatchedMachine();
        for (int c : new int[] {LEAST, -1, 0, 4, MOST}) {
            due.is("layout(" + c + ")", false, x.layout(c));
        }
        due.is("refused layouts touch nothing", false, x.drop());
        for (int c = 1; c <= 3; c++) {
            due.is("layout(" + c + ")", true, x.layout(c));
        }
    }

    private static void layoutTakesFieldsAway(Due due) {
        PatchedMachine x = new PatchedMachine();
        Build.fields(x, 2, new int[] {5, 0, -1}, new int[] {6, 1, -1});
        due.is("second layout", true, x.layout(2));
        due.is("the name is free again", true, x.field(2, 5, 3, -1));
        Build.commit(x);
        due.is("fields left", 1, x.shape(2, -1));
        due.is("its type", 83, x.shape(2, 0));
        due.is("layout of a class that had fields", true, x.layout(2));
        Build.commit(x);
        due.is("no field now", 0, x.shape(2, -1));
    }

    private static void fieldRefuses(Due due) {
        PatchedMachine x = new PatchedMachine();
        x.layout(1);
        for (int c : new int[] {LEAST, -1, 0, 4, MOST}) {
            due.is("field of class " + c, false, x.field(c, 0, 0, -1));
        }
        due.is("field of a class without layout", false, x.field(2, 0, 0, -1));
        for (int name : new int[] {LEAST, -1, 10, MOST}) {
            due.is("field named " + name, false, x.field(1, name, 0, -1));
        }
        for (int type : new int[] {LEAST, -1, 4, MOST}) {
            due.is("field of type " + type, false, x.field(1, 0, type, -1));
        }
        for (int from : new int[] {LEAST, -2, 0, 9, 10, MOST}) {
            due.is("field from " + from, false, x.field(1, 0, 0, from));
        }
        for (int k = 0; k < 4; k++) {
            due.is("field " + k, true, x.field(1, 9 - 3 * k, k, -1));
            due.is("its name again", false, x.field(1, 9 - 3 * k, 0, -1));
        }
        due.is("a fifth", false, x.field(1, 1, 0, -1));
        Build.commit(x);
        due.is("four fields", 4, x.shape(1, -1));
        due.is("field behind commit", false, x.field(1, 1, 0, -1));
        x.layout(1);
        x.drop();
        due.is("field behind drop", false, x.field(1, 1, 0, -1));
    }

    private static void fieldLooksAtTheNewest(Due due) {
        PatchedMachine x = new PatchedMachine();
        Build.fields(x, 1, new int[] {0, 0, -1}, new int[] {1, 2, -1});
        Build.constant(x, 0, 1);
        Build.commit(x);
        Build.start(x, 0);
        Build.constant(x, 0, 2);
        Build.fields(x, 1, new int[] {7, 0, 0});
        due.is("a name of the draft alone", false, x.field(1, 8, 0, 7));
        due.is("another type", false, x.field(1, 8, 0, 1));
        due.is("another object type", false, x.field(1, 8, 3, 1));
        due.is("the same type", true, x.field(1, 8, 2, 1));
        Build.commit(x);
        due.is("the patch waits", 1, x.waiting());
        x.layout(1);
        due.is("a name of the present one alone", false, x.field(1, 0, 0, 0));
        due.is("a name of the newest", true, x.field(1, 0, 0, 7));
        x.layout(2);
        due.is("a name of another class", false, x.field(2, 0, 0, 7));
    }

    private static void fieldsMayShareASource(Due due) {
        PatchedMachine x = new PatchedMachine();
        Build.fields(x, 3, new int[] {4, 0, -1});
        Build.commit(x);
        x.layout(3);
        due.is("first of a source", true, x.field(3, 4, 0, 4));
        due.is("second of a source", true, x.field(3, 5, 0, 4));
        due.is("third of a source", true, x.field(3, 0, 0, 4));
    }

    private static void headRefuses(Due due) {
        PatchedMachine x = new PatchedMachine();
        for (int m : new int[] {LEAST, -1, 6, MOST}) {
            due.is("head(" + m + ")", false, x.head(m, 0, 0, 0));
        }
        for (int parameters : new int[] {LEAST, -1, 4, MOST}) {
            due.is("parameters " + parameters, false, x.head(0, parameters, 0, 0));
        }
        for (int locals : new int[] {LEAST, -1, 256, MOST}) {
            due.is("locals " + locals, false, x.head(0, 0, locals, 0));
        }
        for (int result : new int[] {LEAST, -1, 4, MOST}) {
            due.is("result " + result, false, x.head(0, 0, 0, result));
        }
        due.is("refused heads touch nothing", false, x.drop());
        due.is("refused heads give no head", false, x.code(0, 0, 0, 0));
        for (int m = 0; m <= 5; m++) {
            due.is("head(" + m + ")", true, x.head(m, 3, 255, 3));
        }
    }

    private static void headUnpacksLocals(Due due) {
        PatchedMachine x = new PatchedMachine();
        int[] types = {1, 0, 3, 2};
        int locals = 1 + 4 * 0 + 16 * 3 + 64 * 2;
        for (int local = 0; local < 4; local++) {
            for (int type = 0; type <= 3; type++) {
                x.head(0, 0, locals, type);
                x.code(0, 2, local, 0);
                x.code(0, 14, 0, 0);
                due.is("local " + local + " as " + type, types[local] == type ? 0 : 2, x.commit());
            }
        }
    }

    private static void headTakesCodeAway(Due due) {
        PatchedMachine x = new PatchedMachine();
        Build.constant(x, 0, 4);
        Build.commit(x);
        x.head(0, 0, 0, 0);
        due.is("the present one is as it was", true, x.start(0));
        due.is("it runs", 2, x.run(5));
        Build.commit(x);
        due.is("not defined now", false, x.start(0));
        Build.constant(x, 0, 5);
        Build.constant(x, 0, 6);
        Build.commit(x);
        Build.start(x, 0);
        x.run(2);
        due.is("the latest head's code", 6, x.result());
    }

    private static void codeNeedsAHead(Due due) {
        PatchedMachine x = new PatchedMachine();
        due.is("code before a head", false, x.code(1, 0, 0, 0));
        x.head(1, 0, 0, 0);
        due.is("code of another", false, x.code(2, 0, 0, 0));
        for (int m : new int[] {LEAST, -1, 6, MOST}) {
            due.is("code of method " + m, false, x.code(m, 0, 0, 0));
        }
        due.is("code behind a head", true, x.code(1, 0, 0, 0));
        due.is("more", true, x.code(1, 14, 0, 0));
        Build.commit(x);
        due.is("code behind commit", false, x.code(1, 0, 0, 0));
        x.head(1, 0, 0, 0);
        x.drop();
        due.is("code behind drop", false, x.code(1, 0, 0, 0));
    }

    private static void codeTakesFourteen(Due due) {
        PatchedMachine x = new PatchedMachine();
        x.head(5, 0, 0, 0);
        for (int place = 0; place < 12; place++) {
            due.is("place " + place, true, x.code(5, place % 2 == 0 ? 0 : 16, 0, 0));
        }
        due.is("place 12", true, x.code(5, 0, 77, 0));
        due.is("place 13", true, x.code(5, 14, 0, 0));
        due.is("place 14", false, x.code(5, 14, 0, 0));
        Build.commit(x);
        Build.start(x, 5);
        due.is("all fourteen", 14, x.run(300));
        due.is("their result", 77, x.result());
    }

    /** Of every instruction the least and most x, and the most y; those beyond are refused. */
    private static void codeLooksAtOperands(Due due) {
        int[] leastX = {LEAST, 1, 0, 0, 0, 0, 0, 0, 0, 0, 1, 1, 1, 0, 0, 1, 0};
        int[] mostX = {MOST, 3, 3, 3, 0, 0, 0, 0, 13, 13, 3, 3, 3, 5, 0, 3, 0};
        int[] mostY = {0, 0, 0, 0, 0, 0, 0, 0, 0, 0, 0, 9, 9, 0, 0, 0, 0};
        PatchedMachine x = new PatchedMachine();
        for (int op = 0; op <= 16; op++) {
            for (int operand : new int[] {LEAST, -1, 0, 1, 2, 3, 4, 5, 6, 9, 10, 13, 14, 31, 32, MOST}) {
                x.head(0, 0, 0, 0);
                boolean fits = operand >= leastX[op] && operand <= mostX[op];
                due.is("op " + op + " x " + operand, fits, x.code(0, op, operand, 0));
                x.head(0, 0, 0, 0);
                due.is("op " + op + " y " + operand, operand >= 0 && operand <= mostY[op],
                        x.code(0, op, leastX[op], operand));
            }
        }
        x.head(0, 0, 0, 0);
        for (int op : new int[] {LEAST, -1, 17, MOST}) {
            due.is("op " + op, false, x.code(0, op, 0, 0));
        }
        Build.commit(x);
        due.is("refused instructions are not there", false, x.start(0));
    }

    private static void dropGoesBack(Due due) {
        PatchedMachine x = new PatchedMachine();
        due.is("drop of nothing", false, x.drop());
        Build.fields(x, 1, new int[] {2, 0, -1});
        Build.constant(x, 0, 1);
        Build.commit(x);
        due.is("drop behind commit", false, x.drop());
        x.layout(1);
        due.is("drop of a layout", true, x.drop());
        due.is("drop again", false, x.drop());
        x.head(0, 0, 0, 0);
        due.is("drop of a head", true, x.drop());
        due.is("commit behind drop", -1, x.commit());
        Build.constant(x, 1, 1);
        Build.commit(x);
        due.is("what was dropped is as it was", 1, x.shape(1, -1));
        due.is("so is the method", true, x.start(0));
        due.is("it runs", 2, x.run(3));
        due.is("as before", 1, x.result());
        dropGoesBackToTheNewest(due);
    }

    private static void dropGoesBackToTheNewest(Due due) {
        PatchedMachine x = new PatchedMachine();
        Build.constant(x, 0, 1);
        Build.commit(x);
        Build.start(x, 0);
        Build.constant(x, 0, 2);
        Build.commit(x);
        x.head(0, 0, 0, 0);
        due.is("drop while one waits", true, x.drop());
        Build.constant(x, 1, 3);
        Build.commit(x);
        x.run(9);
        Build.start(x, 0);
        x.run(9);
        due.is("the patch that waited is kept", 2, x.result());
    }
}
