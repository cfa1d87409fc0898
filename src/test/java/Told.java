import java.util.ArrayList;
import java.util.List;

/** Makes calls on a machine and writes down each of them with its answer, so that two machines can be compared. */
final class Told {
    private final PatchedMachine x;
    private final List<String> lines = new ArrayList<>();

    Told(PatchedMachine x) {
        this.x = x;
    }

    List<String> lines() {
        return lines;
    }

    private void tell(String call, int answer) {
        lines.add(call + " answered " + answer);
    }

    private void tell(String call, boolean answer) {
        tell(call, answer ? 1 : 0);
    }

    /** What one number tells. */
    void askInShort() {
        tell("waiting()", x.waiting());
        tell("restricted()", x.restricted());
        tell("applied()", x.applied());
        tell("moved()", x.moved());
        tell("status()", x.status());
        tell("result()", x.result());
        tell("depth()", x.depth());
        tell("frame(0)", x.frame(0));
        tell("objects()", x.objects());
        tell("outputs()", x.outputs());
        tell("output(0)", x.output(0));
    }

    void askAll() {
        askInShort();
        for (int k = 1; k <= 7; k++) {
            tell("frame(" + k + ")", x.frame(k));
        }
        for (int back = 1; back <= 15; back++) {
            tell("output(" + back + ")", x.output(back));
        }
        for (int c = 1; c <= 3; c++) {
            for (int k = -1; k <= 3; k++) {
                tell("shape(" + c + ", " + k + ")", x.shape(c, k));
            }
        }
    }

    void commit() {
        tell("commit()", x.commit());
    }

    void drop() {
        tell("drop()", x.drop());
    }

    void run(int n) {
        tell("run(" + n + ")", x.run(n));
    }

    void start(int m) {
        tell("start(" + m + ")", x.start(m));
    }

    /** Which names the draft's classes have free, and how many fields. */
    void fillClasses() {
        for (int c = 1; c <= 3; c++) {
            for (int name = 0; name <= 9; name++) {
                tell("field(" + c + ", " + name + ", 0, -1)", x.field(c, name, 0, -1));
            }
        }
    }

    /** How much room the draft's codes have. */
    void fillMethods() {
        for (int m = 0; m <= 5; m++) {
            int room = 0;
            while (room < 20 && x.code(m, Build.JUMP, 0, 0)) {
                room++;
            }
            tell("room in method " + m, room);
        }
    }

    /** Every method that can be started is run. */
    void runAll() {
        for (int m = 0; m <= 5; m++) {
            start(m);
            run(300);
            tell("status()", x.status());
            tell("result()", x.result());
            tell("objects()", x.objects());
        }
        askAll();
    }
}
