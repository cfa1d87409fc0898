/** Promise 21: shape. */
public final class ShapeTest {
    public static void main(String[] args) {
        Due due = new Due();
        PatchedMachine x = new PatchedMachine();
        Build.fields(x, 3, new int[] {9, 3, -1}, new int[] {0, 0, -1}, new int[] {4, 1, -1}, new int[] {5, 2, -1});
        Build.method(x, 0, 0, 0, 0, Build.op(Build.NEW, 3), Build.op(Build.GET, 3, 0), Build.op(Build.RETURN));
        due.is("the draft is not the present one", 0, x.shape(3, -1));
        Build.commit(x);
        due.is("shape(3, -1)", 4, x.shape(3, -1));
        int[] want = {147, 0, 65, 82};
        for (int k = 0; k < 4; k++) {
            due.is("shape(3, " + k + ")", want[k], x.shape(3, k));
        }
        for (int k : new int[] {Integer.MIN_VALUE, -2, 4, 5, Integer.MAX_VALUE}) {
            due.is("shape(3, " + k + ")", -1, x.shape(3, k));
        }
        for (int c : new int[] {Integer.MIN_VALUE, -1, 0, 4, Integer.MAX_VALUE}) {
            due.is("shape(" + c + ", -1)", -1, x.shape(c, -1));
            due.is("shape(" + c + ", 0)", -1, x.shape(c, 0));
        }
        due.is("another class", 0, x.shape(2, -1));
        Build.start(x, 0);
        Build.fields(x, 3, new int[] {0, 0, 0});
        Build.commit(x);
        due.is("the newest is not the present one", 4, x.shape(3, -1));
        x.run(3);
        due.is("applied", 1, x.shape(3, -1));
        due.is("fewer fields", -1, x.shape(3, 1));
        everyClassWithEveryNumberOfFields(due);
        due.end();
    }

    private static void everyClassWithEveryNumberOfFields(Due due) {
        for (int c = 1; c <= 3; c++) {
            for (int count = 0; count <= 4; count++) {
                PatchedMachine x = new PatchedMachine();
                x.layout(c);
                for (int k = 0; k < count; k++) {
                    x.field(c, 9 - k, (c + k) % 4, -1);
                }
                Build.commit(x);
                due.is("fields of class " + c, count, x.shape(c, -1));
                for (int k = 0; k < count; k++) {
                    due.is("field " + k + " of " + count, 16 * (9 - k) + (c + k) % 4, x.shape(c, k));
                }
                for (int k : new int[] {Integer.MIN_VALUE, -3, -2, count, count + 1, 4, 256, Integer.MAX_VALUE}) {
                    due.is("field " + k + " of " + count, -1, x.shape(c, k));
                }
                for (int other = 1; other <= 3; other++) {
                    due.is("class " + other + " beside " + c, other == c ? count : 0, x.shape(other, -1));
                }
            }
        }
    }
}
