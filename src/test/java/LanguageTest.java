import java.lang.reflect.Constructor;
import java.lang.reflect.Field;
import java.lang.reflect.Method;
import java.lang.reflect.Modifier;
import java.nio.file.Files;
import java.nio.file.Path;
import java.util.Arrays;
import java.util.HashSet;
import java.util.List;
import java.util.Set;
import java.util.regex.Matcher;
import java.util.regex.Pattern;

/** What of LANGUAGE.md can be seen from the program's text and from the class. */
public final class LanguageTest {
    private static final List<String> FACE = List.of("feed", "end", "curves", "fault", "has", "letter", "term",
        "degree", "value", "point", "order", "local", "singular", "tangent", "bend", "flex", "genus", "common",
        "commonTerm", "times", "rules", "rule", "size", "meet", "parts", "total", "knot", "most", "move", "moved",
        "make", "drop", "undo", "status");
    private static final String[] BANNED = {"throw", "try", "catch", "synchronized", "assert", "import", "package",
        "yield", "native", "volatile", "transient", "finally", "instanceof"};
    private static final int MOST_LINES = 60;
    private static int wrong = 0;

    private static void rule(int number, boolean kept, String what) {
        if (!kept) {
            wrong++;
            System.out.println("rule " + number + ": " + what);
        }
    }

    private static void looksAtMembers(Class<?> type) {
        for (Method method : type.getDeclaredMethods()) {
            boolean isOpen = Modifier.isPublic(method.getModifiers());
            rule(1, type != CurveMeets.class || isOpen == FACE.contains(method.getName()), method.toString());
            rule(1, type != CurveMeets.class || isOpen || Modifier.isPrivate(method.getModifiers()),
                method.toString());
            rule(1, type == CurveMeets.class || !FACE.contains(method.getName()), method.toString());
            rule(11, method.getParameterCount() <= 7, method.toString());
        }
        int fields = 0;
        for (Field field : type.getDeclaredFields()) {
            int bits = field.getModifiers();
            boolean isConstant = Modifier.isStatic(bits);
            rule(5, !isConstant || Modifier.isFinal(bits), field.toString());
            rule(1, type != CurveMeets.class || field.getName().equals("NONE") || Modifier.isPrivate(bits),
                field.toString());
            fields += isConstant ? 0 : 1;
        }
        rule(11, fields <= 20, type + " has " + fields + " fields");
    }

    private static void looksAtClass() {
        Class<?> type = CurveMeets.class;
        rule(1, Modifier.isPublic(type.getModifiers()) && Modifier.isFinal(type.getModifiers()), "the class");
        Constructor<?>[] made = type.getDeclaredConstructors();
        rule(1, made.length == 1 && made[0].getParameterCount() == 0 && Modifier.isPublic(made[0].getModifiers()),
            "the constructor");
        Set<String> names = new HashSet<>();
        for (Method method : type.getDeclaredMethods()) {
            names.add(method.getName());
        }
        rule(1, names.containsAll(FACE), "the face");
        Class<?>[] inside = type.getDeclaredClasses();
        rule(11, inside.length + 1 <= 12, inside.length + 1 + " classes");
        looksAtMembers(type);
        for (Class<?> one : inside) {
            rule(2, Modifier.isStatic(one.getModifiers()), one.toString());
            looksAtMembers(one);
        }
    }

    private static String withoutComments(String text) {
        return text.replaceAll("(?s)/\\*.*?\\*/", "").replaceAll("//[^\n]*", "");
    }

    private static void looksAtText(String text) {
        String code = withoutComments(text).replaceAll("\"[^\"]*\"", "\"\"");
        for (String word : BANNED) {
            rule(6, !Pattern.compile("\\b" + word + "\\b").matcher(code).find(), word);
        }
        rule(2, !code.contains("->") && !code.contains("::"), "a lambda");
        rule(5, !Pattern.compile("static\\s*\\{").matcher(code).find(), "a static block");
        Set<String> library = new HashSet<>(Arrays.asList("String", "Math", "System"));
        Matcher words = Pattern.compile("\\b([A-Z][a-z]\\w*)\\b").matcher(code);
        while (words.find()) {
            String word = words.group(1);
            rule(4, library.contains(word) || code.contains("class " + word + " "), word);
        }
    }

    private static void looksAtLengths(String text) {
        Matcher methods = Pattern.compile("(?m)^( {4}| {8})(?! )(?!.*\\bclass\\b)[^\n]*\\) \\{\n").matcher(text);
        while (methods.find()) {
            int end = text.indexOf("\n" + methods.group(1) + "}\n", methods.start());
            int lines = text.substring(methods.start(), Math.max(end, methods.start())).split("\n").length + 1;
            rule(11, lines <= MOST_LINES, lines + " lines: " + methods.group().trim());
        }
    }

    public static void main(String[] args) throws Exception {
        looksAtClass();
        String text = Files.readString(Path.of("src/main/java/CurveMeets.java"));
        looksAtText(text);
        looksAtLengths(text);
        System.out.println(wrong == 0 ? "the rules that can be seen are kept" : wrong + " breaks of the rules");
        if (wrong != 0) {
            System.exit(1);
        }
    }
}
