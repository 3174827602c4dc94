import java.io.IOException;
import java.lang.reflect.Field;
import java.lang.reflect.Method;
import java.lang.reflect.Modifier;
import java.nio.charset.StandardCharsets;
import java.nio.file.Files;
import java.nio.file.Path;
import java.util.ArrayList;
import java.util.HashMap;
import java.util.List;
import java.util.Map;
import java.util.Set;
import java.util.regex.Matcher;
import java.util.regex.Pattern;

/** Those rules of LANGUAGE.md that the text of the program and its compiled classes show, by number. */
public final class RulesTests {
    private static final Path PROGRAM = Path.of("src/main/java/ClassCharacters.java");
    private static final Set<String> IMPORTS = Set.of("java.util.Arrays", "java.util.ArrayList", "java.util.List",
        "java.util.Iterator");
    private static final String[] FORBIDDEN_WORDS = {"throw", "throws", "try", "catch", "synchronized", "assert",
        "volatile", "transient", "native", "strictfp", "goto", "Object", "Random", "Thread", "Runtime", "nanoTime",
        "currentTimeMillis", "hashCode", "toString", "NaN", "Exact"};

    private static int wrong = 0;

    public static void main(String[] args) throws IOException {
        String text = Files.readString(PROGRAM, StandardCharsets.UTF_8);
        String code = withoutComments(text);
        checkText(text, code);
        checkMethods(code);
        checkDepth(code);
        checkClasses();
        System.out.println(wrong == 0 ? "the rules that can be seen are kept" : wrong + " rules broken");
        if (wrong != 0) {
            System.exit(1);
        }
    }

    private static void check(int rule, String what, boolean holds) {
        if (!holds) {
            wrong++;
            System.out.println("rule " + rule + " is broken: " + what);
        }
    }

    private static String withoutComments(String text) {
        return text.replaceAll("(?s)/\\*.*?\\*/", "").replaceAll("//[^\n]*", "");
    }

    private static void checkText(String text, String code) {
        check(3, "characters 0 to 255 alone", text.chars().allMatch(c -> c <= 255));
        check(1, "no package line", !Pattern.compile("(?m)^\\s*package\\b").matcher(code).find());
        Matcher imports = Pattern.compile("(?m)^import\\s+(.*?);").matcher(code);
        while (imports.find()) {
            check(4, "import " + imports.group(1), IMPORTS.contains(imports.group(1)));
        }
        for (String word : FORBIDDEN_WORDS) {
            check(6, word, !Pattern.compile("\\b" + word + "\\b").matcher(code).find());
        }
        check(2, "no lambda and no method reference", !code.contains("->") && !code.contains("::"));
        Matcher system = Pattern.compile("System\\.(\\w+)").matcher(code);
        while (system.find()) {
            check(4, "System." + system.group(1), system.group(1).equals("arraycopy"));
        }
        check(5, "no static initialiser", !Pattern.compile("\\bstatic\\s*\\{").matcher(code).find());
        check(9, "no loop without a bound", !code.matches("(?s).*(while\\s*\\(\\s*true|for\\s*\\(\\s*;\\s*;).*"));
    }

    /** A method's head is indented by one or two levels, and so is the brace that ends it. */
    private static Matcher headsIn(String code) {
        return Pattern.compile("(?m)^( {4}| {8})(?=\\w)[\\w\\[\\] ]+?(\\w+)\\(([^()]*)\\) \\{$").matcher(code);
    }

    private static boolean isStatement(String head) {
        return head.trim().matches("(if|for|while|switch|else)\\b.*");
    }

    private static int endOf(Matcher head, String code) {
        return code.indexOf("\n" + head.group(1) + "}", head.end() - 1);
    }

    private static void checkMethods(String code) {
        Matcher heads = headsIn(code);
        int found = 0;
        while (heads.find()) {
            if (isStatement(heads.group())) {
                continue;
            }
            found++;
            int end = endOf(heads, code);
            long lines = code.substring(heads.start(), Math.max(end, heads.start())).lines().count();
            check(11, heads.group().trim() + " has " + lines + " lines", end > 0 && lines <= 60);
            check(11, heads.group().trim(), heads.group(3).split(",").length <= 7);
        }
        check(11, "methods were found in the text", found > 40);
    }

    /** Methods of one name in two classes count as one, which can make a chain longer but not shorter. */
    private static Map<String, String> bodies(String code) {
        Map<String, String> bodies = new HashMap<>();
        Matcher heads = headsIn(code);
        while (heads.find()) {
            if (!isStatement(heads.group())) {
                bodies.merge(heads.group(2), code.substring(heads.end(), endOf(heads, code)), String::concat);
            }
        }
        return bodies;
    }

    private static void checkDepth(String code) {
        Map<String, String> bodies = bodies(code);
        int most = 0;
        for (String method : bodies.keySet()) {
            most = Math.max(most, depthOf(method, bodies, new ArrayList<>()));
        }
        check(11, "calls are found in the text", most > 3);
        check(11, "calls go " + most + " deep", most <= 8);
    }

    /** How many calls stand open at most, the library's among them, once this method is called. */
    private static int depthOf(String method, Map<String, String> bodies, List<String> open) {
        if (!bodies.containsKey(method)) {
            return 1;
        }
        if (open.contains(method)) {
            check(8, "no recursion: " + open + " " + method, false);
            return 1;
        }
        open.add(method);
        int deepest = 0;
        Matcher calls = Pattern.compile("(\\w+)\\(").matcher(bodies.get(method));
        while (calls.find()) {
            deepest = Math.max(deepest, depthOf(calls.group(1), bodies, open));
        }
        open.remove(open.size() - 1);
        return deepest + 1;
    }

    private static void checkClasses() {
        List<Class<?>> all = new ArrayList<>(List.of(ClassCharacters.class.getDeclaredClasses()));
        all.add(ClassCharacters.class);
        check(11, "at most twelve classes", all.size() <= 12);
        for (Class<?> any : all) {
            int fields = 0;
            for (Field field : any.getDeclaredFields()) {
                boolean isStatic = Modifier.isStatic(field.getModifiers());
                fields += isStatic ? 0 : 1;
                check(5, field + " is a constant", !isStatic || Modifier.isFinal(field.getModifiers()));
                check(3, field + " is of two dimensions at most", !field.getType().getName().startsWith("[[["));
            }
            check(11, any + " has " + fields + " fields", fields <= 20);
            check(2, any + " is no class in a method", !any.isLocalClass() && !any.isAnonymousClass());
            for (Method method : any.getDeclaredMethods()) {
                check(11, method + " has few parameters", method.getParameterCount() <= 7);
            }
        }
    }
}
