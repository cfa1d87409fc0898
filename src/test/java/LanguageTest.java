import java.io.IOException;
import java.lang.reflect.Field;
import java.lang.reflect.Modifier;
import java.nio.file.Files;
import java.nio.file.Path;
import java.util.List;
import java.util.regex.Matcher;
import java.util.regex.Pattern;

/** Rules of the language that can be read off the program's text: its words, its sizes, where it makes objects. */
public final class LanguageTest {
    private static final Path PROGRAM = Path.of("src/main/java/PatchedMachine.java");
    private static final String[] NOT_LEFT = {
        "\\bimport\\b", "\\bpackage\\b", "\\bthrows?\\b", "\\btry\\b", "\\bcatch\\b", "\\bsynchronized\\b",
        "\\bassert\\b", "\\bprotected\\b", "\\bstatic\\s*\\{", "->", "::", "\\bThread\\b", "\\bSystem\\.(?!arraycopy\\b)",
        "Exact\\b", "\\bequals\\b", "\\bhashCode\\b", "\\btoString\\b", "\\bObject\\b",
    };
    private static final int MOST_LINES = 60;
    private static final int MOST_CLASSES = 12;
    private static final int MOST_FIELDS = 20;

    public static void main(String[] args) throws IOException {
        Due due = new Due();
        List<String> lines = Files.readAllLines(PROGRAM);
        wordsThatAreNotLeft(due, lines);
        methodsAreShort(due, lines);
        objectsAreMadeInConstructors(due, lines);
        classesAreFewAndSmall(due);
        due.end();
    }

    private static void wordsThatAreNotLeft(Due due, List<String> lines) {
        for (int i = 0; i < lines.size(); i++) {
            String line = lines.get(i).strip();
            boolean isComment = line.startsWith("/*") || line.startsWith("*") || line.startsWith("//");
            for (String word : isComment ? new String[0] : NOT_LEFT) {
                Matcher found = Pattern.compile(word).matcher(line);
                due.is("line " + (i + 1) + " has " + word, false, found.find());
            }
        }
    }

    /** A method begins at a line that ends with ") {" and has its own modifier, and ends at a brace as far in. */
    private static void methodsAreShort(Due due, List<String> lines) {
        for (int i = 0; i < lines.size(); i++) {
            if (beginsMethod(lines.get(i))) {
                int end = endOf(lines, i);
                due.is("the method at line " + (i + 1) + " is short", true, end - i < MOST_LINES);
            }
        }
    }

    private static boolean beginsMethod(String line) {
        return line.matches(" +(public|private) .*\\) \\{");
    }

    private static int endOf(List<String> lines, int begin) {
        String first = lines.get(begin);
        String brace = first.substring(0, first.length() - first.stripLeading().length()) + "}";
        int end = begin;
        while (end < lines.size() && !lines.get(end).equals(brace)) {
            end++;
        }
        return end;
    }

    /** All runs live in one room, so that no call may make an object. */
    private static void objectsAreMadeInConstructors(Due due, List<String> lines) {
        for (int i = 0; i < lines.size(); i++) {
            if (!beginsMethod(lines.get(i)) || lines.get(i).matches(" +(public|private) [A-Z]\\w+\\(\\) \\{")) {
                continue;
            }
            for (int k = i; k < endOf(lines, i); k++) {
                boolean makes = lines.get(k).matches(".*(\\bnew\\s+\\w+\\s*[(\\[]|\\.clone\\(|\\.copyOf).*");
                due.is("line " + (k + 1) + " makes an object", false, makes);
            }
        }
    }

    private static void classesAreFewAndSmall(Due due) {
        Class<?>[] inside = PatchedMachine.class.getDeclaredClasses();
        due.is("at most twelve classes", true, 1 + inside.length <= MOST_CLASSES);
        due.is("fields of the class", true, fieldsOf(PatchedMachine.class) <= MOST_FIELDS);
        for (Class<?> type : inside) {
            due.is("fields of " + type, true, fieldsOf(type) <= MOST_FIELDS);
            due.is("classes inside " + type, 0, type.getDeclaredClasses().length);
        }
    }

    private static int fieldsOf(Class<?> type) {
        int count = 0;
        for (Field field : type.getDeclaredFields()) {
            count += Modifier.isStatic(field.getModifiers()) ? 0 : 1;
        }
        return count;
    }
}
