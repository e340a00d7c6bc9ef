import java.io.IOException;
import java.lang.reflect.Field;
import java.lang.reflect.Method;
import java.lang.reflect.Modifier;
import java.nio.file.Files;
import java.nio.file.Path;
import java.util.ArrayList;
import java.util.List;
import java.util.Set;
import java.util.TreeSet;
import java.util.regex.Matcher;
import java.util.regex.Pattern;

/** Those rules of LANGUAGE.md that can be seen from the text and the shape of the class. */
public final class LanguageTest {
    private static final Set<String> FORBIDDEN = Set.of("package", "import", "finally", "synchronized",
        "assert", "protected", "native", "volatile", "transient", "Object", "Exception", "Throwable",
        "Error", "equals", "hashCode", "toString", "getMessage");

    private static final Set<String> LIBRARY = Set.of("String", "StringBuilder", "Integer", "Long",
        "Math", "ArrayList", "List", "Iterator", "Iterable", "Comparable", "System", "Arrays");

    private static final Set<String> THROWN = Set.of("IllegalStateException",
        "IllegalArgumentException", "IndexOutOfBoundsException", "ArithmeticException",
        "UnsupportedOperationException", "NoSuchElementException", "RuntimeException");

    /** Of those that may be thrown, the ones that the machine never throws, nor a class below them. */
    private static final Set<String> CAUGHT = Set.of("IllegalStateException",
        "IllegalArgumentException", "UnsupportedOperationException", "NoSuchElementException");

    private static final Check CHECK = new Check("LanguageTest");

    public static void main(String[] args) throws IOException {
        String source = Files.readString(Path.of("src/main/java/Cardgate.java"));
        String code = withoutCommentsAndTexts(source);
        signs(source, code);
        words(code);
        exceptions(code);
        methodsStayShort(source);
        theShape();
        CHECK.end();
    }

    /** Each text is left as "". */
    private static String withoutCommentsAndTexts(String source) {
        return source.replaceAll("\"(\\\\.|[^\"\\\\\n])*\"", "\"\"").replaceAll("(?s)/\\*.*?\\*/", "")
            .replaceAll("//[^\n]*", "");
    }

    private static String matches(String pattern, String text) {
        TreeSet<String> found = new TreeSet<>();
        Matcher matcher = Pattern.compile(pattern).matcher(text);
        while (matcher.find()) {
            found.add(matcher.group());
        }
        return found.toString();
    }

    private static void signs(String source, String code) {
        CHECK.rule("LANGUAGE.md, rules 2, 4 and 10: the signs");
        CHECK.equal("signs beyond 127", "[]", matches("[^\\x01-\\x7f]", source));
        CHECK.equal("lambdas, method references, annotations", "[]", matches("->|::|@\\w+", code));
        CHECK.equal("texts joined by +", "[]", matches("\"\" *\\+|\\+ *\"\"", code));
    }

    private static void words(String code) {
        CHECK.rule("LANGUAGE.md, rules 3, 4, 6 and 13: the words");
        TreeSet<String> strange = new TreeSet<>();
        Set<String> own = ownClasses();
        Matcher word = Pattern.compile("[A-Za-z_]\\w*").matcher(code);
        while (word.find()) {
            String it = word.group();
            boolean isKind = it.matches("[A-Z]\\w*[a-z]\\w*");
            boolean isKnown = own.contains(it) || LIBRARY.contains(it) || THROWN.contains(it);
            if (FORBIDDEN.contains(it) || (isKind && !isKnown)) {
                strange.add(it);
            }
        }
        CHECK.equal("words outside the language", "[]", strange.toString());
        CHECK.equal("static calls outside the library", "[]", matches(
            "\\b(Integer|Long|Math)\\.\\w+Exact\\b|\\bSystem\\.(?!arraycopy\\b)\\w+"
            + "|\\bArrays\\.(?!(copyOf|copyOfRange|fill)\\b)\\w+", code));
    }

    private static Set<String> ownClasses() {
        TreeSet<String> own = new TreeSet<>();
        for (Class<?> each : allClasses()) {
            own.add(each.getSimpleName());
        }
        return own;
    }

    private static List<Class<?>> allClasses() {
        List<Class<?>> all = new ArrayList<>();
        all.add(Cardgate.class);
        for (int k = 0; k < all.size(); k++) {
            all.addAll(List.of(all.get(k).getDeclaredClasses()));
        }
        return all;
    }

    private static void exceptions(String code) {
        CHECK.rule("LANGUAGE.md, rule 6: exceptions");
        String thrown = String.join("|", THROWN);
        CHECK.equal("throws of another form", "[]",
            matches("\\bthrow\\b(?! new (" + thrown + ")\\((\"\")?\\);)[^;]*;", code));
        String caught = String.join("|", CAUGHT);
        CHECK.equal("catches of what the machine throws", "[]",
            matches("\\bcatch \\((?!(" + caught + ") \\w+\\))[^)]*\\)", code));
    }

    /** A member's first and last line stand at the same indent, here 4 or 8. */
    private static void methodsStayShort(String source) {
        CHECK.rule("LANGUAGE.md, rule 11: methods stay short");
        String[] lines = source.split("\n");
        for (String indent : new String[] {"    ", "        "}) {
            int begin = 0;
            for (int k = 0; k < lines.length; k++) {
                if (lines[k].matches(indent + "[^ ].*\\).*") || lines[k].contains(" class ")) {
                    begin = k;
                } else if (lines[k].equals(indent + "}") && !lines[begin].contains(" class ")) {
                    CHECK.equal(lines[begin].trim() + " is long", false, k - begin >= 60);
                }
            }
        }
    }

    private static void theShape() {
        CHECK.rule("LANGUAGE.md, rules 1, 2, 5 and 11: classes, fields, names and parameters");
        List<Class<?>> all = allClasses();
        CHECK.equal("few classes", true, all.size() <= 12);
        TreeSet<String> face = new TreeSet<>();
        for (Method m : Cardgate.class.getDeclaredMethods()) {
            if (Modifier.isPublic(m.getModifiers())) {
                face.add(m.getName());
            }
        }
        for (Class<?> each : all) {
            int modifiers = each.getModifiers();
            CHECK.equal(each + " is static, and not open", true, each == Cardgate.class
                || (Modifier.isStatic(modifiers) && !Modifier.isPublic(modifiers)));
            fieldsOf(each);
            for (Method m : each.getDeclaredMethods()) {
                CHECK.equal(m + " has few parameters", true, m.getParameterCount() <= 7);
                CHECK.equal(m + " has a name of its own", false,
                    Modifier.isPrivate(m.getModifiers()) && face.contains(m.getName()));
            }
        }
    }

    private static void fieldsOf(Class<?> each) {
        int count = 0;
        for (Field f : each.getDeclaredFields()) {
            boolean isStatic = Modifier.isStatic(f.getModifiers());
            CHECK.equal(f + " keeps no static state", true, !isStatic
                || (Modifier.isFinal(f.getModifiers()) && f.getType() == int.class));
            count += isStatic ? 0 : 1;
        }
        CHECK.equal(each + " has few fields", true, count <= 20);
    }
}
