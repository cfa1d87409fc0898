import java.util.ArrayDeque;
import java.util.ArrayList;
import java.util.Collections;
import java.util.HashMap;
import java.util.IdentityHashMap;
import java.util.List;
import java.util.Map;
import java.util.Set;
import java.util.TreeMap;
import java.util.TreeSet;

/**
 * The document once more, as plainly as it can be said with the Java library: programs are copied whole, frames keep
 * the code that they began with, and objects are Java objects with a map of fields.
 */
final class Model {
    record Field(int name, int type, int from) { }

    record Line(int op, int x, int y) { }

    record Method(int parameters, int[] locals, int result, List<Line> code) {
        Method copy() {
            return new Method(parameters, locals, result, new ArrayList<>(code));
        }
    }

    static final class Program {
        final Map<Integer, List<Field>> classes = new TreeMap<>();
        final Map<Integer, Method> methods = new TreeMap<>();
        final Set<Integer> touchedClasses = new TreeSet<>();
        final Set<Integer> touchedMethods = new TreeSet<>();
        int restricted = 0;

        Program next() {
            Program copy = new Program();
            classes.forEach((c, fields) -> copy.classes.put(c, new ArrayList<>(fields)));
            methods.forEach((m, method) -> copy.methods.put(m, method.copy()));
            return copy;
        }

        boolean isDefined(int m) {
            return methods.containsKey(m) && !methods.get(m).code().isEmpty();
        }

        Field field(int c, int name) {
            for (Field field : classes.getOrDefault(c, List.of())) {
                if (field.name() == name) {
                    return field;
                }
            }
            return null;
        }
    }

    static final class Thing {
        final int type;
        Map<Integer, Object> fields = new HashMap<>();

        Thing(int type) {
            this.type = type;
        }
    }

    static final class Frame {
        final int number;
        final Method method;
        final Object[] locals = new Object[4];
        final ArrayList<Object> stack = new ArrayList<>();
        int place = 0;

        Frame(int number, Method method) {
            this.number = number;
            this.method = method;
            for (int i = 0; i < 4; i++) {
                locals[i] = begin(method.locals()[i]);
            }
        }

        Object take() {
            return stack.remove(stack.size() - 1);
        }

        int takeInt() {
            return (Integer) take();
        }
    }

    Program present = new Program();
    Program newest = present;
    Program draft = new Program();
    final ArrayDeque<Program> line = new ArrayDeque<>();
    final ArrayList<Frame> frames = new ArrayList<>();
    final ArrayList<Integer> numbers = new ArrayList<>();
    ArrayList<Thing> things = new ArrayList<>();
    int applied = 0;
    int moved = 0;
    int status = 0;
    int result = 0;

    Model() {
        for (int c = 1; c <= 3; c++) {
            present.classes.put(c, new ArrayList<>());
        }
        draft = present.next();
    }

    private static Object begin(int type) {
        return type == 0 ? Integer.valueOf(0) : null;
    }

    boolean layout(int c) {
        if (c < 1 || c > 3) {
            return false;
        }
        draft.classes.put(c, new ArrayList<>());
        draft.touchedClasses.add(c);
        return true;
    }

    boolean field(int c, int name, int type, int from) {
        if (!draft.touchedClasses.contains(c) || draft.classes.get(c).size() == 4) {
            return false;
        }
        if (name < 0 || name > 9 || draft.field(c, name) != null || type < 0 || type > 3) {
            return false;
        }
        Field source = newest.field(c, from);
        if (from != -1 && (source == null || source.type() != type)) {
            return false;
        }
        draft.classes.get(c).add(new Field(name, type, from));
        return true;
    }

    boolean head(int m, int parameters, int locals, int result) {
        boolean taken = m >= 0 && m <= 5 && parameters >= 0 && parameters <= 3 && locals >= 0 && locals <= 255
                && result >= 0 && result <= 3;
        if (taken) {
            int[] types = {locals & 3, locals >> 2 & 3, locals >> 4 & 3, locals >> 6};
            draft.methods.put(m, new Method(parameters, types, result, new ArrayList<>()));
            draft.touchedMethods.add(m);
        }
        return taken;
    }

    boolean code(int m, int op, int x, int y) {
        if (!draft.touchedMethods.contains(m) || draft.methods.get(m).code().size() == 14 || op < 0 || op > 16) {
            return false;
        }
        int[] least = {0, 1, 0, 0, 0, 0, 0, 0, 0, 0, 1, 1, 1, 0, 0, 1, 0};
        int[] most = {0, 3, 3, 3, 0, 0, 0, 0, 13, 13, 3, 3, 3, 5, 0, 3, 0};
        int mostY = op == 11 || op == 12 ? 9 : 0;
        if (op != 0 && (x < least[op] || x > most[op]) || y < 0 || y > mostY) {
            return false;
        }
        draft.methods.get(m).code().add(new Line(op, x, y));
        return true;
    }

    private boolean touchesNothing() {
        return draft.touchedClasses.isEmpty() && draft.touchedMethods.isEmpty();
    }

    boolean drop() {
        if (touchesNothing()) {
            return false;
        }
        draft = newest.next();
        return true;
    }

    int commit() {
        if (touchesNothing() || line.size() == 3) {
            return -1;
        }
        for (Map.Entry<Integer, Method> entry : draft.methods.entrySet()) {
            int bad = firstBad(entry.getValue());
            if (bad >= 0) {
                return 1 + 100 * entry.getKey() + bad;
            }
        }
        draft.restricted = restrictedBy(draft, newest);
        newest = draft;
        line.add(draft);
        draft = newest.next();
        apply();
        return 0;
    }

    private static int restrictedBy(Program patch, Program before) {
        int restricted = 0;
        for (int m = 0; m < 6; m++) {
            boolean is = patch.touchedMethods.contains(m);
            List<Line> code = before.isDefined(m) ? before.methods.get(m).code() : List.<Line>of();
            for (Line at : code) {
                is |= at.op() >= 10 && at.op() <= 12 && patch.touchedClasses.contains(at.x());
                is |= at.op() == 13 && !key(patch.methods.get(at.x())).equals(key(before.methods.get(at.x())));
            }
            restricted |= is ? 1 << m : 0;
        }
        return restricted;
    }

    /** What a caller sees of a method. */
    private static String key(Method method) {
        StringBuilder text = new StringBuilder().append(method.result()).append(':');
        for (int i = 0; i < method.parameters(); i++) {
            text.append(method.locals()[i]);
        }
        return text.toString();
    }

    private int firstBad(Method method) {
        Set<Integer> named = new TreeSet<>();
        for (Line at : method.code()) {
            if (at.op() == 8 || at.op() == 9) {
                named.add(at.x());
            }
        }
        String stack = "";
        for (int place = 0; place < method.code().size(); place++) {
            Line at = method.code().get(place);
            if (named.contains(place) && !stack.isEmpty()) {
                return place;
            }
            String effect = effect(method, at);
            if (effect == null) {
                return place;
            }
            // "taken>put", the types taken written as they lie on the stack.
            String taken = effect.substring(0, effect.indexOf('>'));
            String put = effect.substring(effect.indexOf('>') + 1);
            if (!stack.endsWith(taken)) {
                return place;
            }
            stack = stack.substring(0, stack.length() - taken.length());
            boolean leads = at.op() == 8 || at.op() == 14;
            if ((leads || at.op() == 9) && !stack.isEmpty()) {
                return place;
            }
            stack += put;
            if (stack.length() > 6 || place == method.code().size() - 1 && !leads) {
                return place;
            }
        }
        return -1;
    }

    private String effect(Method method, Line at) {
        int x = at.x();
        switch (at.op()) {
            case 0: return ">0";
            case 1: case 10: return ">" + x;
            case 2: return ">" + method.locals()[x];
            case 3: return method.locals()[x] + ">";
            case 4: case 5: case 6: case 7: return "00>0";
            case 8: return x < method.code().size() ? ">" : null;
            case 9: return x < method.code().size() ? "0>" : null;
            case 14: return method.result() + ">";
            case 15: return "" + x + x + ">0";
            case 16: return "0>";
            case 13:
                if (!draft.isDefined(x)) {
                    return null;
                }
                String seen = key(draft.methods.get(x));
                return seen.substring(2) + ">" + seen.charAt(0);
            default:
                Field field = draft.field(x, at.y());
                if (field == null) {
                    return null;
                }
                return at.op() == 11 ? x + ">" + field.type() : "" + x + field.type() + ">";
        }
    }

    private void apply() {
        while (!line.isEmpty()) {
            Program patch = line.peek();
            for (Frame frame : frames) {
                if ((patch.restricted >> frame.number & 1) != 0) {
                    return;
                }
            }
            line.remove();
            collect();
            for (Thing thing : things) {
                if (patch.touchedClasses.contains(thing.type)) {
                    Map<Integer, Object> fresh = new HashMap<>();
                    for (Field field : patch.classes.get(thing.type)) {
                        Object kept = thing.fields.get(field.from());
                        fresh.put(field.name(), field.from() < 0 ? begin(field.type()) : kept);
                    }
                    thing.fields = fresh;
                    moved++;
                }
            }
            present = patch;
            applied++;
        }
    }

    private void collect() {
        Set<Object> reached = Collections.newSetFromMap(new IdentityHashMap<>());
        ArrayDeque<Object> open = new ArrayDeque<>();
        for (Frame frame : frames) {
            for (Object value : frame.locals) {
                addThing(open, value);
            }
            for (Object value : frame.stack) {
                addThing(open, value);
            }
        }
        while (!open.isEmpty()) {
            Thing thing = (Thing) open.remove();
            if (reached.add(thing)) {
                for (Object value : thing.fields.values()) {
                    addThing(open, value);
                }
            }
        }
        things.removeIf(thing -> !reached.contains(thing));
    }

    private static void addThing(ArrayDeque<Object> open, Object value) {
        if (value instanceof Thing) {
            open.add(value);
        }
    }

    boolean start(int m) {
        if (status == 1 || !present.isDefined(m)) {
            return false;
        }
        Method method = present.methods.get(m);
        if (method.parameters() > 0 || method.result() != 0) {
            return false;
        }
        frames.add(new Frame(m, method));
        status = 1;
        result = 0;
        return true;
    }

    int run(int n) {
        if (n < 1 || n > 300 || status != 1) {
            return -1;
        }
        int steps = 0;
        while (steps < n && status == 1) {
            step();
            steps++;
            apply();
        }
        return steps;
    }

    private void end(int how) {
        status = how;
        frames.clear();
    }

    private void step() {
        Frame top = frames.get(frames.size() - 1);
        Line at = top.method.code().get(top.place++);
        int x = at.x();
        switch (at.op()) {
            case 0: top.stack.add(x); break;
            case 1: top.stack.add(null); break;
            case 2: top.stack.add(top.locals[x]); break;
            case 3: top.locals[x] = top.take(); break;
            case 4: top.stack.add(top.takeInt() + top.takeInt()); break;
            case 5: top.stack.add(-top.takeInt() + top.takeInt()); break;
            case 6: top.stack.add(top.takeInt() * top.takeInt()); break;
            case 7: top.stack.add(top.takeInt() > top.takeInt() ? 1 : 0); break;
            case 8: top.place = x; break;
            case 9: top.place = top.takeInt() == 0 ? x : top.place; break;
            case 10: make(top, x); break;
            case 11: get(top, at.y()); break;
            case 12: put(top, at.y()); break;
            case 13: call(top, x); break;
            case 14: leave(top); break;
            case 15: top.stack.add(top.take() == top.take() ? 1 : 0); break;
            default: numbers.add(top.takeInt()); break;
        }
    }

    private void make(Frame top, int c) {
        if (things.size() == 16) {
            collect();
        }
        if (things.size() == 16) {
            end(4);
            return;
        }
        Thing thing = new Thing(c);
        for (Field field : present.classes.get(c)) {
            thing.fields.put(field.name(), begin(field.type()));
        }
        things.add(thing);
        top.stack.add(thing);
    }

    private void get(Frame top, int name) {
        Thing thing = (Thing) top.take();
        if (thing == null) {
            end(3);
        } else {
            top.stack.add(thing.fields.get(name));
        }
    }

    private void put(Frame top, int name) {
        Object value = top.take();
        Thing thing = (Thing) top.take();
        if (thing == null) {
            end(3);
        } else {
            thing.fields.put(name, value);
        }
    }

    private void call(Frame top, int m) {
        if (frames.size() == 8) {
            end(5);
            return;
        }
        Frame made = new Frame(m, present.methods.get(m));
        for (int i = made.method.parameters() - 1; i >= 0; i--) {
            made.locals[i] = top.take();
        }
        frames.add(made);
    }

    private void leave(Frame top) {
        Object value = top.take();
        frames.remove(frames.size() - 1);
        if (frames.isEmpty()) {
            end(2);
            result = (Integer) value;
        } else {
            frames.get(frames.size() - 1).stack.add(value);
        }
    }

    int restricted() {
        return line.isEmpty() ? 0 : line.peek().restricted;
    }

    int frame(int k) {
        if (k < 0 || k >= frames.size()) {
            return -1;
        }
        Frame frame = frames.get(frames.size() - 1 - k);
        return 100 * frame.number + frame.place;
    }

    int output(int back) {
        return back < 0 || back > 15 || back >= numbers.size() ? 0 : numbers.get(numbers.size() - 1 - back);
    }

    int shape(int c, int k) {
        if (c < 1 || c > 3 || k < -1 || k >= present.classes.get(c).size()) {
            return -1;
        }
        if (k == -1) {
            return present.classes.get(c).size();
        }
        Field field = present.classes.get(c).get(k);
        return 16 * field.name() + field.type();
    }
}
