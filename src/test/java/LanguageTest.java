import java.io.IOException;
import java.lang.reflect.Executable;
import java.lang.reflect.Field;
import java.lang.reflect.Method;
import java.lang.reflect.Modifier;
import java.nio.file.Files;
import java.nio.file.Path;
import java.util.ArrayList;
import java.util.Arrays;
import java.util.List;
import java.util.Set;
import java.util.TreeSet;
import java.util.regex.Matcher;
import java.util.regex.Pattern;

/** ../shared/LANGUAGE.md, as far as a look at the program's text and at its compiled classes can tell. */
public final class LanguageTest {
    private static final Check CHECK = new Check();
    private static final Path PROGRAM = Path.of("src/main/java/LaneDesk.java");
    private static final int MOST_LINES = 60;
    private static final int MOST_PARAMETERS = 7;
    private static final int MOST_CLASSES = 12;
    private static final int MOST_FIELDS = 20;

    public static void main(String[] args) throws IOException {
        String text = Files.readString(PROGRAM);
        oneFile();
        names();
        classes();
        staticFields();
        sizes();
        signs(bare(text));
        library(bare(text));
        exceptions(text);
        lengths(text);
        CHECK.end();
    }

    /** The program without its comments, and with all written texts and characters empty. */
    private static String bare(String text) {
        return text.replaceAll("(?s)/\\*.*?\\*/", " ")
                .replaceAll("//[^\n]*", " ")
                .replaceAll("\"(\\\\.|[^\"\\\\])*\"", "\"\"")
                .replaceAll("'(\\\\.|[^'\\\\])'", "''");
    }

    private static List<Class<?>> all() {
        List<Class<?>> all = new ArrayList<>(Arrays.asList(LaneDesk.class.getDeclaredClasses()));
        all.add(LaneDesk.class);
        return all;
    }

    private static void oneFile() throws IOException {
        try (var files = Files.walk(Path.of("src/main"))) {
            CHECK.due("files under src/main", files.filter(Files::isRegularFile).count(), 1);
        }
    }

    /** Rule 1. */
    private static void names() {
        Set<String> face = new TreeSet<>();
        for (Method method : LaneDesk.class.getDeclaredMethods()) {
            if (Modifier.isPublic(method.getModifiers())) {
                face.add(method.getName());
            }
        }
        for (Class<?> each : all()) {
            for (Method method : each.getDeclaredMethods()) {
                if (!Modifier.isPublic(method.getModifiers()) && face.contains(method.getName())) {
                    CHECK.report("rule 1: " + method + " bears the name of a public method");
                }
            }
        }
    }

    /** Rules 1, 2 and 11. */
    private static void classes() {
        for (Class<?> inside : LaneDesk.class.getDeclaredClasses()) {
            int modifiers = inside.getModifiers();
            CHECK.due("rule 1: " + inside + " is not public", Modifier.isPublic(modifiers), false);
            CHECK.due("rule 1: " + inside + " is not protected", Modifier.isProtected(modifiers), false);
            CHECK.due("rule 1: " + inside + " is static", Modifier.isStatic(modifiers), true);
            CHECK.due("classes inside " + inside, inside.getDeclaredClasses().length, 0);
        }
        CHECK.due("rule 11: at most twelve classes", all().size() <= MOST_CLASSES, true);
    }

    /** Rule 5. */
    private static void staticFields() {
        Set<String> types = new TreeSet<>(Arrays.asList("int", "long", "boolean", "char", "String",
                "int[]", "long[]", "char[]", "byte[]"));
        for (Class<?> each : all()) {
            for (Field field : each.getDeclaredFields()) {
                if (Modifier.isStatic(field.getModifiers())) {
                    CHECK.due("rule 5: " + field + " is final", Modifier.isFinal(field.getModifiers()), true);
                    CHECK.due("rule 5: type of " + field, types.contains(field.getType().getSimpleName()), true);
                }
            }
        }
    }

    /** Rule 11. */
    private static void sizes() {
        for (Class<?> each : all()) {
            long fields = Arrays.stream(each.getDeclaredFields()).filter(f -> !Modifier.isStatic(f.getModifiers())).count();
            CHECK.due("rule 11: at most twenty fields in " + each, fields <= MOST_FIELDS, true);
            List<Executable> methods = new ArrayList<>(Arrays.asList(each.getDeclaredMethods()));
            methods.addAll(Arrays.asList(each.getDeclaredConstructors()));
            for (Executable method : methods) {
                boolean few = method.getParameterCount() <= MOST_PARAMETERS;
                CHECK.due("rule 11: at most seven parameters of " + method, few, true);
            }
        }
    }

    /** Rules 1, 2, 5, 6 and 13: what must not stand in the program at all. */
    private static void signs(String bare) {
        for (String sign : new String[] {"->", "::", "@", "[][][]"}) {
            CHECK.due("the sign " + sign + " is in the program", bare.contains(sign), false);
        }
        for (String word : new String[] {"package", "try", "catch", "finally", "synchronized", "assert", "volatile",
            "transient", "native", "strictfp", "instanceof", "var", "double", "float", "Object", "Thread",
            "getMessage", "hashCode", "toString", "equals", "protected"}) {
            CHECK.due("the word " + word + " is in the program", has(bare, "\\b" + word + "\\b"), false);
        }
        CHECK.due("rule 4: a name that ends in Exact", has(bare, "Exact\\b"), false);
        CHECK.due("rule 5: a static initialiser", has(bare, "\\bstatic\\s*\\{"), false);
    }

    /** Rule 4: each use of the library is one that stands there. */
    private static void library(String bare) {
        Set<String> fine = new TreeSet<>(Arrays.asList("System.arraycopy", "Arrays.copyOf", "Arrays.copyOfRange",
                "Arrays.fill", "Math.min", "Math.max", "Math.abs", "Math.floorMod", "Math.floorDiv",
                "Integer.bitCount", "Integer.compare"));
        Matcher uses = Pattern.compile("\\b(System|Arrays|Math|Integer|Long|Character|String|List)\\.\\w+").matcher(bare);
        while (uses.find()) {
            CHECK.due("rule 4: " + uses.group() + " is fine", fine.contains(uses.group()), true);
        }
        Matcher imports = Pattern.compile("\\bimport\\s+([^;]+);").matcher(bare);
        while (imports.find()) {
            CHECK.due("rule 4: import of " + imports.group(1), "java.util.Arrays".equals(imports.group(1)), true);
        }
        CHECK.due("rule 4: java. beside the import", has(bare.replace("import java.util.Arrays;", ""), "\\bjavax?\\."), false);
    }

    /** Rule 6: throw new E() or throw new E("a written text"). */
    private static void exceptions(String text) {
        Pattern fine = Pattern.compile("throw new (IllegalStateException|IllegalArgumentException|IndexOutOfBoundsException"
                + "|ArithmeticException|UnsupportedOperationException|NoSuchElementException|RuntimeException)"
                + "\\((\"[^\"\\\\]*\")?\\);.*", Pattern.DOTALL);
        Matcher thrown = Pattern.compile("\\bthrow\\b").matcher(text);
        int count = 0;
        while (thrown.find()) {
            count++;
            String rest = text.substring(thrown.start());
            if (!fine.matcher(rest).matches()) {
                CHECK.report("rule 6: " + rest.lines().findFirst().orElse(""));
            }
        }
        CHECK.due("the program throws", count > 0, true);
    }

    /** Rule 11: a method's lines are those from its head to the brace that has its indent. */
    private static void lengths(String text) {
        List<String> lines = text.lines().toList();
        Pattern head = Pattern.compile("( {4}| {8})(public |private |static |final )*[\\w\\[\\]]+( \\w+)?\\(.*");
        int methods = 0;
        for (int from = 0; from < lines.size(); from++) {
            Matcher found = head.matcher(lines.get(from));
            if (found.matches() && !lines.get(from).endsWith(";")) {
                int count = lines.subList(from, lines.size()).indexOf(found.group(1) + "}") + 1;
                boolean isShort = count >= 1 && count <= MOST_LINES;
                CHECK.due("rule 11: at most sixty lines from " + lines.get(from), isShort, true);
                methods++;
            }
        }
        CHECK.due("methods were found in the program's text", methods >= 16, true);
    }

    private static boolean has(String text, String pattern) {
        return Pattern.compile(pattern).matcher(text).find();
    }
}
