import java.io.IOException;
import java.lang.reflect.Constructor;
import java.lang.reflect.Field;
import java.lang.reflect.Method;
import java.lang.reflect.Modifier;
import java.nio.file.Files;
import java.nio.file.Path;
import java.util.ArrayList;
import java.util.List;
import java.util.Set;
import java.util.TreeSet;
import java.util.regex.Pattern;

/** The rules of LANGUAGE.md that can be seen in the text and in the class, and the document's face. */
public final class LanguageTest {
    private static final String[] FACE = {
        "int child(int,int)", "int children(int,int,int)", "int mend(int,int,int)", "int of(int,int)", "int feed(int)",
        "int law()", "int turn(int,int,int)", "int longest(int,int)", "int counter(int,int)", "int unfair(int,int)",
        "int afternoon(int,int,int)", "int been(int,int)", "int join(int,int,int)", "int each(int)", "int order(int,int)",
        "int held(int,int)", "int trade(int,int)", "int drawn(int,int,int,int)", "int judge(int,int,int)",
        "int who(int,int,int)", "int sure(int,int,int)", "int on(int)", "int push()", "int off()", "int led(int)",
        "int image()", "int back()", "int undo()", "int redo()", "int body(int)", "int act(int,int,int)", "int trace(int)",
        "int keep(int,int)", "int row(int,int,int)", "int put(int,int,long)", "long element(int,int)",
        "int shift(int,int,int,int,int)", "int taken(int,int)", "int count(int)"};
    private static final String[] FORBIDDEN = {"throw", "throws", "try", "catch", "synchronized", "assert", "Exact", "->", "::",
        "@", "var ", "System.out", "Object", "Thread", "Random", "static {", "protected", "volatile", "float", "double"};

    /** What rule 4 lists of the library's own names; of its constants (MAX_VALUE and the like) it lists none. */
    private static final Pattern LIBRARY = Pattern.compile("(?<![\\w.])(Arrays|Boolean|Byte|Character|Double|Float|Integer|List|Long|Math|Short"
            + "|String|System)\\.(\\w+)");
    private static final Set<String> LISTED = Set.of("Arrays.copyOf", "Arrays.copyOfRange", "Arrays.fill", "Integer.bitCount",
            "Integer.compare", "Integer.max", "Integer.min", "List.of", "Long.bitCount", "Long.compare", "Long.max", "Long.min",
            "Math.abs", "Math.floorDiv", "Math.floorMod", "Math.max", "Math.min", "System.arraycopy");

    private static int wrong = 0;

    public static void main(String[] args) throws IOException {
        String root = System.getProperty("project.root", ".");
        List<String> lines = Files.readAllLines(Path.of(root, "src/main/java/TwentyPushes.java"));
        text(lines);
        methodsAreShort(lines);
        face();
        members();
        nothingIsMadeByCalls(lines);
        System.out.println(wrong == 0 ? "the language is kept to" : wrong + " rules broken");
        if (wrong != 0) {
            System.exit(1);
        }
    }

    private static void hold(boolean holds, String what) {
        if (!holds) {
            wrong++;
            System.out.println(what);
        }
    }

    private static String code(String line) {
        String code = line.replaceAll("'.'", "' '").replaceAll("\"[^\"]*\"", "\"\"");
        int comment = code.indexOf("//");
        return comment >= 0 ? code.substring(0, comment) : code.strip().matches("(/\\*\\*|\\*).*") ? "" : code;
    }

    private static void text(List<String> lines) {
        for (String line : lines) {
            String code = code(line);
            for (String word : FORBIDDEN) {
                String pattern = word.matches("\\w+") ? ".*\\b" + word + "\\b.*" : ".*" + Pattern.quote(word) + ".*";
                hold(!code.matches(pattern), "rule 6: " + line);
            }
            hold(!code.startsWith("import") || code.equals("import java.util.Arrays;"), "rule 4: " + line);
            if (!code.startsWith("import")) {
                hold(LIBRARY.matcher(code).results().allMatch(m -> LISTED.contains(m.group())), "rule 4: " + line);
            }
            hold(line.chars().allMatch(c -> c >= 1 && c <= 127), "rule 4: a sign beyond 127: " + line);
        }
    }

    private static void methodsAreShort(List<String> lines) {
        int begin = -1;
        for (int k = 0; k < lines.size(); k++) {
            String line = lines.get(k);
            if (line.matches(" {4}( {4})?[\\w\\[\\] ]+\\([^;]*\\) \\{")) {
                begin = k;
            }
            if (begin >= 0 && line.matches(" {4}( {4})?\\}")) {
                hold(k - begin < 60, "rule 11: " + lines.get(begin));
                begin = -1;
            }
        }
    }

    private static String signature(Method method) {
        List<String> types = new ArrayList<>();
        for (Class<?> type : method.getParameterTypes()) {
            types.add(type.getSimpleName());
        }
        return method.getReturnType().getSimpleName() + " " + method.getName() + "(" + String.join(",", types) + ")";
    }

    private static void face() {
        Set<String> shown = new TreeSet<>();
        for (Method method : TwentyPushes.class.getDeclaredMethods()) {
            if (!Modifier.isPrivate(method.getModifiers())) {
                hold(Modifier.isPublic(method.getModifiers()) && !Modifier.isStatic(method.getModifiers()), "rule 1: " + method);
                shown.add(signature(method));
            }
        }
        hold(shown.equals(new TreeSet<>(List.of(FACE))), "rule 1: the face is " + shown);
        hold(Modifier.isFinal(TwentyPushes.class.getModifiers()), "rule 1: the class is final");
        Constructor<?>[] constructors = TwentyPushes.class.getDeclaredConstructors();
        hold(constructors.length == 1 && constructors[0].getParameterCount() == 0
                && Modifier.isPublic(constructors[0].getModifiers()), "rule 1: the constructor");
        Set<String> constants = new TreeSet<>();
        for (Field field : TwentyPushes.class.getDeclaredFields()) {
            if (!Modifier.isPrivate(field.getModifiers())) {
                constants.add(Modifier.toString(field.getModifiers()) + " " + field.getName());
            }
        }
        String constant = "public static final ";
        hold(constants.equals(new TreeSet<>(List.of(constant + "BAD", constant + "NOT", constant + "FULL", constant + "STATE",
                constant + "VOID"))), "rule 1: the constants are " + constants);
    }

    private static void members() {
        List<Class<?>> all = new ArrayList<>(List.of(TwentyPushes.class.getDeclaredClasses()));
        Set<String> names = new TreeSet<>();
        for (Method method : TwentyPushes.class.getMethods()) {
            if (method.getDeclaringClass() == TwentyPushes.class) {
                names.add(method.getName());
            }
        }
        for (Class<?> inside : all) {
            int modifiers = inside.getModifiers();
            hold(Modifier.isStatic(modifiers) && !Modifier.isPublic(modifiers), "rule 1: " + inside);
            hold(inside.getDeclaredClasses().length == 0, "rule 2: " + inside);
        }
        all.add(TwentyPushes.class);
        hold(all.size() <= 12, "rule 11: " + all.size() + " classes");
        for (Class<?> each : all) {
            int fields = 0;
            for (Field field : each.getDeclaredFields()) {
                boolean isStatic = Modifier.isStatic(field.getModifiers());
                fields += isStatic ? 0 : 1;
                hold(!isStatic || Modifier.isFinal(field.getModifiers()), "rule 5: " + field);
                hold(!isStatic || List.of("int", "long", "boolean", "char", "String", "int[]").contains(field.getType().getSimpleName()),
                        "rule 5: " + field);
            }
            hold(fields <= 20, "rule 11: fields of " + each);
            for (Method method : each.getDeclaredMethods()) {
                hold(method.getParameterCount() <= 7, "rule 11: " + method);
                hold(Modifier.isPublic(method.getModifiers()) || !names.contains(method.getName()), "rule 1: " + method);
                hold(!method.isSynthetic(), "rule 2: " + method);
            }
        }
    }

    /** All that a run holds is made with the object, so that the calls of a run stay in their room. */
    private static void nothingIsMadeByCalls(List<String> lines) {
        boolean inConstructor = false;
        for (String line : lines) {
            inConstructor = line.equals("    public TwentyPushes() {") || (inConstructor && !line.equals("    }"));
            hold(inConstructor || !code(line).matches(".*\\bnew\\b.*") || line.contains("final "), "rule 12: " + line);
        }
    }
}
