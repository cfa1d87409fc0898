/** Promise 1: the first program, no patch, no run, no object. */
public final class NewObjectTest {
    public static void main(String[] args) {
        Due due = new Due();
        PatchedMachine x = new PatchedMachine();
        due.is("waiting()", 0, x.waiting());
        due.is("restricted()", 0, x.restricted());
        due.is("applied()", 0, x.applied());
        due.is("moved()", 0, x.moved());
        due.is("status()", 0, x.status());
        due.is("result()", 0, x.result());
        due.is("depth()", 0, x.depth());
        due.is("frame(0)", -1, x.frame(0));
        due.is("objects()", 0, x.objects());
        due.is("outputs()", 0, x.outputs());
        due.is("output(0)", 0, x.output(0));
        due.is("run(1)", -1, x.run(1));
        due.is("commit()", -1, x.commit());
        due.is("drop()", false, x.drop());
        for (int c = 1; c <= 3; c++) {
            due.is("shape(" + c + ", -1)", 0, x.shape(c, -1));
            due.is("shape(" + c + ", 0)", -1, x.shape(c, 0));
            due.is("field before layout", false, x.field(c, 0, 0, -1));
        }
        for (int m = 0; m <= 5; m++) {
            due.is("start(" + m + ")", false, x.start(m));
            due.is("code before head", false, x.code(m, 0, 0, 0));
        }
        anotherObjectIsNotChanged(due, x);
        due.end();
    }

    private static void anotherObjectIsNotChanged(Due due, PatchedMachine other) {
        PatchedMachine x = new PatchedMachine();
        Build.fields(x, 1, new int[] {1, 0, -1});
        Build.constant(x, 0, 3);
        Build.commit(x);
        Build.start(x, 0);
        due.is("run of one", 2, x.run(9));
        due.is("status of the other", 0, other.status());
        due.is("applied of the other", 0, other.applied());
        due.is("shape of the other", 0, other.shape(1, -1));
        due.is("start of the other", false, other.start(0));
    }
}
