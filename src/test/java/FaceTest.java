import java.io.IOException;
import java.lang.reflect.Constructor;
import java.lang.reflect.Field;
import java.lang.reflect.Method;
import java.lang.reflect.Modifier;
import java.nio.file.Files;
import java.nio.file.Path;
import java.util.Arrays;
import java.util.List;
import java.util.Set;
import java.util.TreeSet;
import java.util.regex.Pattern;

/** The public face, and those rules of LANGUAGE.md that can be seen from outside or by their words. */
public final class FaceTest {
    /** The methods as the document writes them, their parameters by name. */
    private static final List<String> FACE = List.of(
            "int fact(int name, int a, int b)", "int remove(int name, int a, int b)",
            "int rule(int name, int x, int y)", "int body(int rule, int name, int x, int y, boolean not)",
            "int filter(int rule, int does, int x, int y)", "int aggregate(int rule, int kind, int variable)",
            "int drop(int rule)", "int safe(int rule)", "int run()", "int stratum(int name)",
            "int holds(int name, int a, int b)", "int round(int name, int a, int b)",
            "int counts(int name, int a, int b)", "int row(int n)", "int size()");
    /** How many lines, parameters and classes LANGUAGE.md leaves (rule 11). */
    private static final int LINES = 60;
    private static final int PARAMETERS = 7;
    private static final int CLASSES = 12;
    private static final List<String> FORBIDDEN = List.of(
            "\\bthrow\\b", "\\btry\\b", "\\bcatch\\b", "\\bsynchronized\\b", "\\bassert\\b", "->", "::",
            "\\bpackage\\b", "Exact\\b", "\\bnew\\s+Random\\b", "\\bSystem\\.(?!arraycopy)",
            "\\bimport\\s+(?!java\\.util\\.Arrays;)");

    private static int wrong = 0;

    private static void due(String what, Object got, Object want) {
        if (!got.equals(want)) {
            wrong++;
            System.out.println(what + ": " + got + ", due is " + want);
        }
    }

    public static void main(String[] args) throws IOException {
        Class<?> face = RuleEngine.class;
        due("final and public", Modifier.toString(face.getModifiers()), "public final");
        due("BAD", RuleEngine.BAD, -1);
        due("NO", RuleEngine.NO, -2);
        due("FULL", RuleEngine.FULL, -3);
        lookAtMembers(face);
        for (Class<?> inner : face.getDeclaredClasses()) {
            due("static: " + inner, Modifier.isStatic(inner.getModifiers()), true);
            due("not public: " + inner, Modifier.isPublic(inner.getModifiers()), false);
            lookAtFields(inner);
        }
        due("few classes", face.getDeclaredClasses().length < CLASSES, true);
        String text = Files.readString(Path.of("src/main/java/RuleEngine.java"));
        lookAtWords(text.replaceAll("(?s)/\\*.*?\\*/", "").replaceAll("//[^\n]*", ""));
        lookAtLengths(text.split("\n"));
        System.out.println(wrong == 0 ? "the face is as due" : wrong + " things are not as due");
        if (wrong != 0) {
            System.exit(1);
        }
    }

    private static void lookAtMembers(Class<?> face) {
        Set<String> seen = new TreeSet<>();
        Set<String> names = new TreeSet<>();
        for (Method m : face.getDeclaredMethods()) {
            if (!Modifier.isPrivate(m.getModifiers())) {
                due("public: " + m, Modifier.toString(m.getModifiers()), "public");
                String types = Arrays.toString(m.getParameterTypes()).replace("[", "(").replace("]", ")");
                seen.add(m.getReturnType() + " " + m.getName() + types);
                names.add(m.getName());
            }
        }
        Set<String> asDue = new TreeSet<>();
        for (String line : FACE) {
            asDue.add(line.replaceAll("(int|boolean) \\w+(?=[,)])", "$1"));
        }
        due("methods", seen, asDue);
        for (Method m : face.getDeclaredMethods()) {
            boolean hidden = Modifier.isPrivate(m.getModifiers());
            due("named as a public one: " + m, hidden && names.contains(m.getName()), false);
        }
        for (Class<?> inner : face.getDeclaredClasses()) {
            for (Method m : inner.getDeclaredMethods()) {
                due("named as a public one: " + m, names.contains(m.getName()), false);
                due("few parameters: " + m, m.getParameterCount() <= PARAMETERS, true);
            }
        }
        Constructor<?>[] made = face.getDeclaredConstructors();
        due("constructors", Arrays.toString(made), "[public RuleEngine()]");
        Set<String> constants = new TreeSet<>();
        for (Field f : face.getDeclaredFields()) {
            if (!Modifier.isPrivate(f.getModifiers())) {
                constants.add(f.toString());
            }
        }
        due("constants", constants.toString(), "[public static final int RuleEngine.BAD, "
                + "public static final int RuleEngine.FULL, public static final int RuleEngine.NO]");
        lookAtFields(face);
    }

    private static void lookAtFields(Class<?> c) {
        int own = 0;
        for (Field f : c.getDeclaredFields()) {
            boolean shared = Modifier.isStatic(f.getModifiers());
            due("final: " + f, !shared || Modifier.isFinal(f.getModifiers()), true);
            own += shared ? 0 : 1;
        }
        due("few fields: " + c, own <= 20, true);
    }

    private static void lookAtWords(String code) {
        for (String line : FACE) {
            due("has " + line, code.contains("    public " + line + " {\n"), true);
        }
        for (String word : FORBIDDEN) {
            due("has " + word, Pattern.compile(word).matcher(code).find(), false);
        }
    }

    /** A method's last line is the first one that is its closing bracket, as far in as its first line. */
    private static void lookAtLengths(String[] lines) {
        Pattern start = Pattern.compile("( {4}| {8})[a-zA-Z].*\\) \\{");
        int methods = 0;
        for (int i = 0; i < lines.length; i++) {
            if (start.matcher(lines[i]).matches() && !lines[i].matches(" *(if|for|while|switch) .*")) {
                String end = lines[i].replaceAll("\\S.*", "}");
                int last = i;
                while (last < lines.length && !lines[last].equals(end)) {
                    last++;
                }
                due("short: " + lines[i], last - i < LINES, true);
                methods++;
            }
        }
        due("methods seen", methods > FACE.size(), true);
    }
}
