import java.lang.reflect.Constructor;
import java.lang.reflect.Field;
import java.lang.reflect.Method;
import java.lang.reflect.Modifier;
import java.nio.file.Files;
import java.nio.file.Path;
import java.util.Arrays;
import java.util.List;
import java.util.TreeSet;
import java.util.regex.Matcher;
import java.util.regex.Pattern;

/** Those rules of ../shared/LANGUAGE.md that can be seen from the source and the class's face. */
public final class SourceRules {
    private static final List<String> FACE = List.of(
            "best(int)", "bag(int,int)", "cell(int,int)", "count(int)", "cover(int,int)", "drawn(int)",
            "fault()", "fill(int)", "joint(int)", "lay()", "line(int,int)", "order(int,int,int,int)",
            "piece(int,int)", "takeUp(int)", "undo()", "way(int,int,int)", "whose(int,int)", "wipe()",
            "write(int)");
    private static int wrong = 0;

    public static void main(String[] args) throws Exception {
        face();
        source();
        System.out.println("SourceRules: " + wrong + " wrong");
        if (wrong != 0) {
            System.exit(1);
        }
    }

    private static void check(boolean good, String what) {
        if (!good) {
            wrong++;
            System.out.println("SourceRules: " + what);
        }
    }

    private static void face() {
        Class<?> type = StoneFloors.class;
        check(Modifier.isPublic(type.getModifiers()) && Modifier.isFinal(type.getModifiers()), "public final class");
        TreeSet<String> open = new TreeSet<>();
        for (Method m : type.getDeclaredMethods()) {
            if (!Modifier.isPrivate(m.getModifiers())) {
                String kinds = Arrays.toString(m.getParameterTypes()).replaceAll("[\\[\\] ]", "");
                open.add(m.getName() + "(" + kinds + ")");
                check(m.getReturnType() == int.class, m.getName() + " answers an int");
            }
        }
        check(open.equals(new TreeSet<>(FACE)), "the face is " + open);
        TreeSet<String> fields = new TreeSet<>();
        for (Field f : type.getDeclaredFields()) {
            if (!Modifier.isPrivate(f.getModifiers())) {
                fields.add(f.getName());
            }
        }
        check(fields.equals(new TreeSet<>(List.of("BAD", "NO", "FULL", "NONE"))), "the constants are " + fields);
        Constructor<?>[] makers = type.getDeclaredConstructors();
        check(makers.length == 1 && Modifier.isPublic(makers[0].getModifiers()), "one public constructor");
        for (Class<?> inside : type.getDeclaredClasses()) {
            check(Modifier.isStatic(inside.getModifiers()), inside + " is static");
            check(inside.getDeclaredFields().length <= 24, inside + " has few fields");
            for (Method m : inside.getDeclaredMethods()) {
                check(m.getParameterCount() <= 7, m + " takes at most seven");
                check(FACE.stream().noneMatch(call -> call.startsWith(m.getName() + "(")), m + " bears a public name");
            }
        }
        check(type.getDeclaredClasses().length <= 12, "at most twelve classes");
    }

    private static void source() throws Exception {
        String all = Files.readString(Path.of("src/main/java/StoneFloors.java"));
        check(all.chars().allMatch(c -> c == '\n' || c >= 32 && c <= 126), "plain ASCII");
        String code = all.replaceAll("(?s)/\\*.*?\\*/", " ").replaceAll("//[^\n]*", " ");
        check(!code.contains("->") && !code.contains("::"), "no lambda, no method reference");
        check(!Pattern.compile("\"\\s*\\+|\\+\\s*\"").matcher(code).find(), "no text joined by +");
        for (String word : List.of("throw", "throws", "try", "catch", "synchronized", "assert", "package", "protected",
                "var", "yield", "native", "volatile", "transient", "hashCode", "toString", "System.out", "Exact")) {
            check(!Pattern.compile("\\b" + word + "\\b").matcher(code).find(), "no " + word);
        }
        Matcher imports = Pattern.compile("import ([\\w.]+);").matcher(code);
        while (imports.find()) {
            check(List.of("java.util.Arrays", "java.util.ArrayList", "java.util.List").contains(imports.group(1)),
                    "import of " + imports.group(1));
        }
        library(code);
        staticFields(code);
        methodLengths(all);
    }

    /** Rule 4, as far as names tell: what is called on a class of the library, and what is made new. */
    private static void library(String code) {
        Matcher calls = Pattern.compile("\\b(String|Integer|Long|Math|Arrays|System|List)\\.(\\w+)").matcher(code);
        while (calls.find()) {
            if (code.startsWith("import ", code.lastIndexOf('\n', calls.start()) + 1)) {
                continue;
            }
            check(List.of("Integer.bitCount", "Integer.compare", "Math.min", "Math.max", "Math.abs", "Math.floorMod",
                    "Math.floorDiv", "Arrays.fill", "Arrays.copyOf", "Arrays.copyOfRange", "System.arraycopy")
                    .contains(calls.group()), "use of " + calls.group());
        }
        TreeSet<String> own = new TreeSet<>(List.of("int", "char", "boolean"));
        for (Class<?> inside : StoneFloors.class.getDeclaredClasses()) {
            own.add(inside.getSimpleName());
        }
        Matcher made = Pattern.compile("\\bnew (\\w+)(\\[[^\\]]*\\]\\[)?").matcher(code);
        while (made.find()) {
            boolean flat = made.group(2) == null || made.group(1).equals("int");
            check(own.contains(made.group(1)) && flat, "making of " + made.group());
        }
    }

    /** Rule 5: no state but that of objects. */
    private static void staticFields(String code) {
        Matcher fields = Pattern.compile("\\bstatic (?!final class)[^(){;]*[=;]").matcher(code);
        while (fields.find()) {
            check(fields.group().matches("static final (int|String) [A-Z_]+ =(?s).*"), "static field " + fields.group());
        }
        check(!Pattern.compile("\\bstatic\\s*\\{").matcher(code).find(), "no static block");
    }

    private static void methodLengths(String all) {
        int depth = 0;
        int begun = 0;
        int number = 0;
        for (String line : all.split("\n")) {
            number++;
            if (line.matches("( {4}| {8})\\S.*\\) \\{")) {
                begun = number;
            }
            if (line.matches("( {4}| {8})\\}") && begun > 0) {
                check(number - begun <= 60, "method at line " + begun + " is long");
                begun = 0;
            }
            depth = Math.max(depth, line.length());
        }
        check(depth <= 120, "no line is too wide");
    }
}
