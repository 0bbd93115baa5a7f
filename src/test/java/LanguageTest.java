import java.io.IOException;
import java.lang.reflect.Field;
import java.lang.reflect.Method;
import java.lang.reflect.Modifier;
import java.nio.file.Files;
import java.nio.file.Path;
import java.util.ArrayDeque;
import java.util.Deque;
import java.util.List;
import java.util.Set;
import java.util.regex.Matcher;
import java.util.regex.Pattern;

/** The rules of LANGUAGE.md, as far as reflection and a plain look at the text can tell. */
public final class LanguageTest {
    private static final Set<String> CONSTANT_TYPES = Set.of("int", "long", "boolean", "char", "java.lang.String",
        "[I", "[J", "[C", "[B");
    private static final Set<String> LIBRARY = Set.of("Math.abs", "Math.min", "Math.max", "Integer.bitCount",
        "System.arraycopy");
    private static final Set<String> EXCEPTIONS = Set.of("IllegalStateException", "IllegalArgumentException",
        "IndexOutOfBoundsException", "NoSuchElementException");

    private static final Due due = new Due();

    public static void main(String[] arguments) throws IOException {
        String text = plain(Files.readString(Path.of("src/main/java/BusLifts.java")));
        classes();
        members();
        words(text);
        library(text);
        exceptions(text);
        lengths(text);
        due.end();
    }

    /** The text without comments, and with what stands between quotes taken out. */
    private static String plain(String text) {
        return text.replaceAll("(?s)/\\*.*?\\*/", "").replaceAll("//[^\n]*", "")
            .replaceAll("\"[^\"\n]*\"", "\"\"").replaceAll("'\\\\?[^']'", "' '");
    }

    private static void classes() {
        due.promise(0, "LANGUAGE.md, rules 1, 2 and 11, the classes");
        Class<?>[] inside = BusLifts.class.getDeclaredClasses();
        due.is("at most 12 classes", inside.length + 1 <= 12, true);
        for (Class<?> type : inside) {
            int modifiers = type.getModifiers();
            due.is(type + " is static", Modifier.isStatic(modifiers), true);
            due.is(type + " is public or protected", Modifier.isPublic(modifiers) || Modifier.isProtected(modifiers), false);
            due.is(type + " stands in the class itself", type.getDeclaredClasses().length, 0);
        }
    }

    private static Deque<Class<?>> all() {
        Deque<Class<?>> types = new ArrayDeque<>(List.of(BusLifts.class.getDeclaredClasses()));
        types.add(BusLifts.class);
        return types;
    }

    private static void members() {
        due.promise(0, "LANGUAGE.md, rules 3, 5, 6 and 11, the members");
        for (Class<?> type : all()) {
            int fields = 0;
            for (Field field : type.getDeclaredFields()) {
                String name = type.getSimpleName() + "." + field.getName();
                if (Modifier.isStatic(field.getModifiers())) {
                    due.is(name + " is final", Modifier.isFinal(field.getModifiers()), true);
                    due.is(name + " is a constant", CONSTANT_TYPES.contains(field.getType().getName()), true);
                } else {
                    fields++;
                    due.is(name + " has a type that is allowed", isAllowed(field.getType()), true);
                }
            }
            due.is(type + " has at most 20 fields", fields <= 20, true);
            for (Method method : type.getDeclaredMethods()) {
                due.is(method + " has at most 7 parameters", method.getParameterCount() <= 7, true);
                due.is(method + " belongs to every object",
                    Set.of("equals", "hashCode", "toString", "finalize", "clone").contains(method.getName()), false);
            }
        }
    }

    private static boolean isAllowed(Class<?> type) {
        Class<?> part = type.isArray() ? type.getComponentType() : type;
        return part.isPrimitive() || part.getName().startsWith("BusLifts$");
    }

    private static void words(String text) {
        due.promise(0, "LANGUAGE.md, what may not stand in the text");
        for (String word : List.of("package", "try", "catch", "finally", "synchronized", "assert", "protected", "var",
            "native", "volatile", "Object", "Class", "Thread", "Random", "java\\.(?!util\\.NoSuchElementException;)",
            "instanceof", "yield")) {
            due.is("the word " + word, Pattern.compile("\\b" + word + (word.endsWith(")") ? "" : "\\b")).matcher(text).find(), false);
        }
        due.is("a lambda", text.contains("->"), false);
        due.is("a method reference", text.contains("::"), false);
        due.is("an annotation", text.contains("@"), false);
        due.is("a loop without a condition", Pattern.compile("while \\(true\\)|for \\([^;]*; *;").matcher(text).find(), false);
        due.is("texts joined by +", Pattern.compile("\"\\s*\\+|\\+\\s*\"").matcher(text).find(), false);
        due.is("imports", text.split("\\bimport\\b", -1).length - 1, 1);
        due.is("signs above 127", text.chars().anyMatch(sign -> sign > 127), false);
    }

    private static void library(String text) {
        due.promise(0, "LANGUAGE.md, rule 4");
        Matcher used = Pattern.compile("\\b(Math|Integer|Long|System|Arrays|String|StringBuilder|Character|List)\\.(\\w+)").matcher(text);
        while (used.find()) {
            due.is(used.group() + " is allowed", LIBRARY.contains(used.group()), true);
        }
        Matcher made = Pattern.compile("\\bnew (\\w+)").matcher(text);
        while (made.find()) {
            String name = made.group(1);
            due.is("new " + name, name.equals("int") || EXCEPTIONS.contains(name) || isInside(name), true);
        }
    }

    private static boolean isInside(String name) {
        return all().stream().anyMatch(type -> type != BusLifts.class && type.getSimpleName().equals(name));
    }

    private static void exceptions(String text) {
        due.promise(0, "LANGUAGE.md, rule 6");
        Matcher thrown = Pattern.compile("\\bthrow\\b([^;]*);").matcher(text);
        Pattern form = Pattern.compile(" new (" + String.join("|", EXCEPTIONS) + ")\\((\"\")?\\)");
        int found = 0;
        while (thrown.find()) {
            found++;
            due.is("throw" + thrown.group(1), form.matcher(thrown.group(1)).matches(), true);
        }
        due.is("throws are found", found > 0, true);
    }

    private static void lengths(String text) {
        due.promise(0, "LANGUAGE.md, rule 11, short methods");
        Matcher method = Pattern.compile("\n( +)[^\n=;]*\\)[^\n=;]*\\{\n(?s:(.*?))\n\\1}\n").matcher(text);
        int found = 0;
        for (int at = 0; method.find(at); at = method.start() + 1) {
            found++;
            long lines = method.group(2).lines().count();
            due.is("at most 60 lines from" + method.group().split("\n")[1], lines <= 60, true);
        }
        due.is("blocks are found", found > 100, true);
    }
}
