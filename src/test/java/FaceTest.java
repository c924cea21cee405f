import java.io.IOException;
import java.lang.reflect.Constructor;
import java.lang.reflect.Field;
import java.lang.reflect.Method;
import java.lang.reflect.Modifier;
import java.nio.file.Files;
import java.nio.file.Path;
import java.util.Arrays;
import java.util.List;
import java.util.Set;
import java.util.TreeSet;
import java.util.regex.Matcher;
import java.util.regex.Pattern;

/** The public face, and those rules of LANGUAGE.md that can be seen from the class and its text. */
public final class FaceTest {
    private static final Path SOURCE = Path.of("src/main/java/ThinTables.java");
    private static final Path DOCUMENT = Path.of("../shared/DOC.md");
    private static final List<String> FACE = List.of(
            "block(int):int", "cell(int,int):int", "change(int,int):int", "changed(int,int,int):int",
            "columns(int):int", "count(int):int", "determinant():int", "exact(int,int):long",
            "factor(int,int,int):int", "full():int", "going(int):int", "heap():int", "inverse(int,int):int",
            "joined(int):int", "matched(int):int", "node(int,int):int", "order(int):int", "prime(int):int",
            "rank():int", "rows(int):int", "set(int,int,int):int", "side(int,int):int", "size(int):int",
            "solution(int):int", "stop():int");
    private static final List<String> WORDS = List.of("throw", "throws", "try", "catch", "finally", "synchronized",
            "assert", "volatile", "native", "Object", "Random", "System.out", "Thread", "var", "protected",
            "double", "float", "equals", "hashCode", "toString");
    private static final int MOST_LINES_OF_METHOD = 60;
    private static final int MOST_CLASSES = 12;
    private static final Due due = new Due();

    public static void main(String[] args) throws IOException {
        face();
        insides();
        String text = Files.readString(SOURCE);
        words(text);
        calls(text);
        lengths(text);
        if (Files.isReadable(DOCUMENT)) {
            String document = Files.readString(DOCUMENT);
            linesOfFace(document, text);
            headings(document, text);
        }
        due.end();
    }

    private static void face() {
        Class<?> type = ThinTables.class;
        due.holds("the class is public and final", type.getModifiers() == (Modifier.PUBLIC | Modifier.FINAL));
        Set<String> found = new TreeSet<>();
        for (Method method : type.getDeclaredMethods()) {
            if (Modifier.isPublic(method.getModifiers())) {
                found.add(signature(method));
                due.holds(method + " is not static", !Modifier.isStatic(method.getModifiers()));
            } else {
                due.holds(method + " is private", Modifier.isPrivate(method.getModifiers()));
            }
        }
        due.holds("the face is " + found, found.equals(new TreeSet<>(FACE)));
        Constructor<?>[] made = type.getDeclaredConstructors();
        due.holds("one constructor", made.length == 1 && Modifier.isPublic(made[0].getModifiers())
                && made[0].getParameterCount() == 0);
        Set<String> constants = new TreeSet<>();
        for (Field field : type.getDeclaredFields()) {
            if (Modifier.isPublic(field.getModifiers())) {
                constants.add(field.getName());
                due.holds(field + " is a constant", field.getType() == int.class
                        && Modifier.isStatic(field.getModifiers()) && Modifier.isFinal(field.getModifiers()));
            } else {
                due.holds(field + " is private", Modifier.isPrivate(field.getModifiers()));
            }
        }
        due.holds("the constants are " + constants, constants.equals(Set.of("NONE", "OUTSIDE", "NOT")));
    }

    private static String signature(Method method) {
        StringBuilder types = new StringBuilder();
        for (Class<?> type : method.getParameterTypes()) {
            types.append(types.length() == 0 ? "" : ",").append(type.getSimpleName());
        }
        return method.getName() + "(" + types + "):" + method.getReturnType().getSimpleName();
    }

    private static void insides() {
        Set<String> names = new TreeSet<>();
        for (String one : FACE) {
            names.add(one.substring(0, one.indexOf('(')));
        }
        Class<?>[] inside = ThinTables.class.getDeclaredClasses();
        due.holds("few classes", inside.length < MOST_CLASSES);
        for (Class<?> type : inside) {
            due.holds(type + " is static", Modifier.isStatic(type.getModifiers()));
            due.holds(type + " has few fields", type.getDeclaredFields().length <= 20);
            due.holds(type + " has no class of its own", type.getDeclaredClasses().length == 0);
            stateIsFinal(type);
            for (Method method : type.getDeclaredMethods()) {
                due.holds(method + " has a public one's name", !names.contains(method.getName()));
                due.holds(method + " has few parameters", method.getParameterCount() <= 7);
            }
        }
        stateIsFinal(ThinTables.class);
        for (Method method : ThinTables.class.getDeclaredMethods()) {
            due.holds(method + " has a public one's name", Modifier.isPublic(method.getModifiers())
                    || !names.contains(method.getName()));
        }
    }

    private static void stateIsFinal(Class<?> type) {
        for (Field field : type.getDeclaredFields()) {
            due.holds(field + " is static and not final", !Modifier.isStatic(field.getModifiers())
                    || Modifier.isFinal(field.getModifiers()));
        }
    }

    private static void words(String text) {
        for (String word : WORDS) {
            due.holds("the text has the word " + word, !Pattern.compile("\\b" + Pattern.quote(word) + "\\b")
                    .matcher(text).find());
        }
        due.holds("the text has a lambda", !text.contains("->"));
        due.holds("the text has a method reference", !text.contains("::"));
        due.holds("the text has a package", !text.contains("package "));
        Matcher imports = Pattern.compile("(?m)^import .*$").matcher(text);
        while (imports.find()) {
            due.is("import " + imports.group(), imports.group().equals("import java.util.Arrays;") ? 1 : 0, 1);
        }
    }

    /** What is called on the library by its name must be in the list of LANGUAGE.md. */
    private static void calls(String text) {
        List<String> allowed = Arrays.asList("Integer.bitCount", "Math.max", "Math.min", "Math.abs", "Arrays.fill",
                "System.arraycopy");
        Matcher found = Pattern.compile("\\b(Integer|Long|Math|Arrays|System|String|List)\\.\\w+").matcher(text);
        while (found.find()) {
            due.holds("the text calls " + found.group(), allowed.contains(found.group()));
        }
    }

    private static void lengths(String text) {
        String[] lines = text.split("\n");
        int start = -1;
        for (int k = 0; k < lines.length; k++) {
            due.holds("line " + (k + 1) + " is long", lines[k].length() <= 120);
            if (lines[k].matches("( {4}| {8})(public|private) .*\\) \\{")) {
                start = k;
            }
            if (start >= 0 && lines[k].matches("( {4}| {8})\\}") && indent(lines[k]) == indent(lines[start])) {
                due.holds("the method at line " + (start + 1) + " is long", k - start < MOST_LINES_OF_METHOD);
                start = -1;
            }
        }
    }

    /** Each line of the document's face stands in the text, in the same order. */
    private static void linesOfFace(String document, String text) {
        int start = document.indexOf("```java");
        int end = document.indexOf("\n```", start);
        due.holds("the document has a face", start >= 0 && end > start);
        int at = 0;
        int lines = 0;
        for (String line : document.substring(Math.max(0, start), Math.max(0, end)).split("\n")) {
            String wanted = line.strip().endsWith(");") ? line.strip().replace(");", ") {") : line.strip();
            if (wanted.startsWith("public ")) {
                int found = text.indexOf(wanted, at);
                due.holds("the text has, after what the face has before it: " + wanted, found >= at);
                at = Math.max(at, found);
                lines++;
            }
        }
        // the class, its constants, its constructor
        due.is("lines of the face", lines, FACE.size() + 3);
    }

    /** What the document says ahead of some calls stands in the text ahead of just these. */
    private static void headings(String document, String text) {
        Matcher said = Pattern.compile("Ahead of the calls (.*) the interface says: (---- .*)\\.").matcher(document);
        int headings = 0;
        while (said.find()) {
            headings++;
            int start = text.indexOf("// " + said.group(2) + "\n");
            int end = text.indexOf("// ----", start + 1);
            due.holds("the text has " + said.group(2), start >= 0 && end > start);
            StringBuilder found = new StringBuilder();
            Matcher calls = Pattern.compile("(?m)^ {4}public \\w+ (\\w+)\\(").matcher(
                    text.substring(Math.max(0, start), Math.max(0, end)));
            while (calls.find()) {
                found.append(found.length() == 0 ? "`" : ", `").append(calls.group(1)).append('`');
            }
            due.holds("the calls behind " + said.group(2) + " are " + found, said.group(1).contentEquals(found));
        }
        due.is("headings", headings, 5);
    }

    private static int indent(String line) {
        return line.length() - line.stripLeading().length();
    }
}
