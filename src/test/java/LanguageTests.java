import java.io.IOException;
import java.lang.reflect.Constructor;
import java.lang.reflect.Field;
import java.lang.reflect.Method;
import java.lang.reflect.Modifier;
import java.nio.charset.StandardCharsets;
import java.nio.file.Files;
import java.nio.file.Path;
import java.util.ArrayList;
import java.util.List;
import java.util.Set;
import java.util.regex.Matcher;
import java.util.regex.Pattern;

/**
 * What of ../shared/LANGUAGE.md can be seen from the text of the class; each line begins with the
 * number of the rule. It is read from the directory in which .ci/run stands. Rule 1 is told by
 * FaceTests, rules 7 to 9 by all tests that look at the very class of what is thrown.
 */
public final class LanguageTests {
    private static final Path PROGRAM = Path.of("src/main/java/Remotepane.java");
    private static final Set<String> IMPORTS = Set.of("java.util.ArrayList", "java.util.Arrays",
            "java.util.Iterator", "java.util.List", "java.util.NoSuchElementException");
    private static final Set<String> EXCEPTIONS = Set.of("IllegalStateException",
            "IllegalArgumentException", "IndexOutOfBoundsException", "ArithmeticException",
            "UnsupportedOperationException", "NoSuchElementException", "RuntimeException");
    private static final String[] FORBIDDEN = {"synchronized", "assert", "finally", "volatile",
        "transient", "native", "strictfp", "var", "yield", "sealed", "permits", "Object", "Class",
        "Thread", "Runtime", "Random", "Scanner", "Throwable", "Error", "Exception", "Override",
        "getMessage", "hashCode", "toString", "currentTimeMillis", "nanoTime", "getenv", "getProperty",
        "identityHashCode", "Double", "Float", "Character", "Byte", "Short", "Boolean", "Map", "Set"};
    private static final int MOST_CLASSES = 12;
    private static final int MOST_FIELDS = 20;
    private static final int MOST_PARAMETERS = 7;
    private static final int MOST_LINES = 60;

    public static void main(String[] args) throws IOException {
        String whole = Files.readString(PROGRAM, StandardCharsets.ISO_8859_1);
        String code = withoutTexts(withoutComments(whole));
        signs(whole);
        imports(code);
        statics(code);
        library(code);
        exceptions(code);
        words(code);
        joinedTexts(withoutComments(whole));
        lengths(code);
        shapes();
        Check.end();
    }

    private static String withoutComments(String text) {
        return text.replaceAll("(?s)/\\*.*?\\*/", " ").replaceAll("//[^\n]*", " ");
    }

    private static String withoutTexts(String text) {
        return text.replaceAll("\"[^\"\n]*\"", "\"\"").replaceAll("'(\\\\.|[^'\\\\])'", "0");
    }

    private static List<Matcher> found(String pattern, String text) {
        List<Matcher> all = new ArrayList<>();
        int from = 0;
        Matcher next = Pattern.compile(pattern).matcher(text);
        while (from <= text.length() && next.find(from)) {
            all.add(next);
            from = next.end() + (next.end() == next.start() ? 1 : 0);
            next = Pattern.compile(pattern).matcher(text);
        }
        return all;
    }

    private static void none(String what, String pattern, String text) {
        for (Matcher match : found(pattern, text)) {
            Check.same(what, match.group(), "");
        }
        Check.same(what, found(pattern, text).size(), 0);
    }

    private static void signs(String whole) {
        none("4 signs are 1 to 127", "[^\\x01-\\x7f]", whole);
        none("0 no package", "(?m)^\\s*package\\b.*$", whole);
    }

    private static void imports(String code) {
        for (Matcher match : found("import\\s+([^;]+);", code)) {
            Check.same("4 may import " + match.group(1), IMPORTS.contains(match.group(1)), true);
        }
        none("4 nothing by its whole name", "\\b(java|javax|jdk|sun)\\.\\w+",
                code.replaceAll("import[^;]+;", ""));
    }

    private static void statics(String code) {
        none("5 no static initialiser", "\\bstatic\\s*\\{", code);
        for (Class<?> one : classes()) {
            for (Field field : one.getDeclaredFields()) {
                boolean isStatic = Modifier.isStatic(field.getModifiers()) && !field.isSynthetic();
                boolean isFinal = Modifier.isFinal(field.getModifiers());
                Check.same("5 final, if static: " + field, !isStatic || isFinal, true);
            }
        }
    }

    private static void library(String code) {
        for (Matcher match : found("\\b(Math|Integer|Long|Arrays|System|List|String)\\.(\\w+)", code)) {
            String call = match.group(1) + "." + match.group(2);
            boolean isAllowed = switch (match.group(1)) {
                case "Arrays" -> Set.of("copyOf", "copyOfRange", "fill").contains(match.group(2));
                case "System" -> match.group(2).equals("arraycopy");
                case "List" -> match.group(2).equals("of");
                case "String" -> false;
                default -> !match.group(2).endsWith("Exact");
            };
            Check.same("4 may call " + call, isAllowed, true);
        }
    }

    private static void exceptions(String code) {
        List<Matcher> thrown = found("\\bthrow\\b\\s*(new\\s+(\\w+)\\(\"*\\);)?", code);
        for (Matcher match : thrown) {
            Check.same("6 thrown anew: " + match.group(), EXCEPTIONS.contains("" + match.group(2)), true);
        }
        Check.same("6 something is thrown", !thrown.isEmpty(), true);
        none("6 nothing is caught, as nothing is to be", "\\b(try|catch)\\b", code);
        none("6 no exceptions of its own", "\\bextends\\s+\\w*Exception\\b", code);
    }

    private static void words(String code) {
        for (String word : FORBIDDEN) {
            none("3, 4, 6, 13 not the word " + word, "\\b" + word + "\\b", code);
        }
        none("2 no lambda", "->", code);
        none("2 no method reference", "::", code);
        none("2 no annotation", "@\\w+", code);
    }

    private static void joinedTexts(String code) {
        none("10 no text is joined by +", "\"\\s*\\+|\\+\\s*\"", code);
    }

    /** A bracket that opens right inside a class, behind a head with parameters, opens a method. */
    private static void lengths(String code) {
        List<Boolean> areClasses = new ArrayList<>();
        int lineOfHead = 0;
        int line = 1;
        int head = 0;
        int methods = 0;
        for (int at = 0; at < code.length(); at++) {
            char sign = code.charAt(at);
            boolean isInClass = !areClasses.isEmpty() && areClasses.get(areClasses.size() - 1);
            if (sign == '{') {
                areClasses.add(code.substring(head, at).matches("(?s).*\\b(class|enum|interface)\\b.*"));
                if (isInClass && code.substring(head, at).indexOf('(') >= 0) {
                    lineOfHead = line - count(code.substring(head, at).stripLeading(), '\n');
                    methods++;
                }
            } else if (sign == '}' && !areClasses.isEmpty()) {
                boolean endsClass = areClasses.remove(areClasses.size() - 1);
                if (!endsClass && !areClasses.isEmpty() && areClasses.get(areClasses.size() - 1)) {
                    int lines = line - lineOfHead + 1;
                    Check.same("11 a method of " + lines + " lines", lines <= MOST_LINES, true);
                }
            }
            head = sign == '{' || sign == '}' || sign == ';' ? at + 1 : head;
            line += sign == '\n' ? 1 : 0;
        }
        Check.same("11 brackets are closed", areClasses.size(), 0);
        Check.same("11 the methods of the face and more were found", methods > 33, true);
    }

    private static int count(String text, char sign) {
        int count = 0;
        for (int i = 0; i < text.length(); i++) {
            count += text.charAt(i) == sign ? 1 : 0;
        }
        return count;
    }

    private static List<Class<?>> classes() {
        List<Class<?>> all = new ArrayList<>();
        all.add(Remotepane.class);
        for (int i = 0; i < all.size(); i++) {
            all.addAll(List.of(all.get(i).getDeclaredClasses()));
        }
        return all;
    }

    private static void shapes() {
        List<Class<?>> all = classes();
        Check.same("11 at most 12 classes", all.size() <= MOST_CLASSES, true);
        for (Class<?> one : all) {
            int fields = 0;
            for (Field field : one.getDeclaredFields()) {
                fields += Modifier.isStatic(field.getModifiers()) ? 0 : 1;
            }
            Check.same("11 at most 20 fields: " + one, fields <= MOST_FIELDS, true);
            for (Method method : one.getDeclaredMethods()) {
                Check.same("11 at most 7 parameters: " + method,
                        method.getParameterCount() <= MOST_PARAMETERS, true);
            }
            for (Constructor<?> made : one.getDeclaredConstructors()) {
                Check.same("11 at most 7 parameters: " + made,
                        made.getParameterCount() <= MOST_PARAMETERS, true);
                Check.same("6 a constructor throws nothing: " + made,
                        made.getExceptionTypes().length, 0);
            }
        }
    }
}
