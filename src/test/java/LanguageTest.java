import java.io.IOException;
import java.lang.reflect.Field;
import java.lang.reflect.Modifier;
import java.nio.charset.StandardCharsets;
import java.nio.file.Files;
import java.nio.file.Path;
import java.util.Arrays;
import java.util.Set;
import java.util.regex.Matcher;
import java.util.regex.Pattern;

/** The class keeps to ../shared/LANGUAGE.md, as far as its text and its parts tell; the numbers are the rules'. */
public final class LanguageTest extends Checks {
    private static final Path SOURCE = Path.of("src/main/java/SsaForge.java");
    private static final int MOST_LINES = 60;
    private static final int MOST_PARAMETERS = 7;
    private static final int MOST_CLASSES = 12;
    private static final int MOST_FIELDS = 20;
    private static final Set<Class<?>> CONSTANTS = Set.of(int.class, long.class, boolean.class, char.class, String.class,
            int[].class, long[].class, char[].class, byte[].class);

    public static void main(String[] args) throws IOException {
        String code = withoutTexts(Files.readString(SOURCE, StandardCharsets.ISO_8859_1));
        rule3Types(code);
        rule4Library(code);
        rule5StaticFields();
        rule6Exceptions(code);
        rule11Sizes(code);
        finish();
    }

    /** Comments go, and what stands in quotes, so that words in them are not taken for code. */
    private static String withoutTexts(String source) {
        String noComments = source.replaceAll("(?s)/\\*.*?\\*/", "").replaceAll("//[^\n]*", "");
        return noComments.replaceAll("\"(\\\\.|[^\"\\\\])*\"", "\"\"").replaceAll("'(\\\\.|[^'\\\\])'", "' '");
    }

    private static void none(String what, String code, String pattern) {
        Matcher matcher = Pattern.compile(pattern).matcher(code);
        check(what, matcher.find() ? matcher.group() : "none", "none");
    }

    private static void only(String what, String code, String pattern, String allowed) {
        Matcher matcher = Pattern.compile(pattern).matcher(code);
        while (matcher.find()) {
            check(what + " " + matcher.group(), matcher.group().matches(allowed) ? "allowed" : "not allowed", "allowed");
        }
    }

    private static void rule3Types(String code) {
        none("arrays of three dimensions", code, "\\[\\]\\[\\]\\[\\]");
        none("lambdas and references to methods", code, "->|::");
        none("types that no rule names", code, "\\b(Object|HashMap|Map|Set|Iterator|Optional|Character|var)\\b");
    }

    private static void rule4Library(String code) {
        only("imports", code, "import [^;]*;", "import java\\.util\\.NoSuchElementException;");
        only("library", code, "\\b(Math|Long|Integer|System|Arrays|String|Character|Byte)\\.\\w+",
                "Math\\.(min|max)|Long\\.bitCount|System\\.arraycopy");
        none("names written out", code, "\\bjava\\.(?!util\\.NoSuchElementException)");
    }

    private static void rule5StaticFields() {
        for (Class<?> one : allClasses()) {
            for (Field field : one.getDeclaredFields()) {
                if (Modifier.isStatic(field.getModifiers())) {
                    check(field.getName() + " is a constant", constantOf(field), "constant");
                }
            }
        }
    }

    private static String constantOf(Field field) {
        boolean plain = CONSTANTS.contains(field.getType());
        return plain && Modifier.isFinal(field.getModifiers()) ? "constant" : "of " + field.getType() + " or not final";
    }

    private static void rule6Exceptions(String code) {
        none("nothing is caught, so nothing that the machine throws", code, "\\b(try|catch|finally)\\b");
        none("words that are ruled out", code, "\\b(synchronized|assert|volatile|native|instanceof)\\b|static \\{");
        only("throws", code, "\\bthrow [^;]*;", "throw new (IllegalStateException|IllegalArgumentException|IndexOutOfBoundsException"
                + "|ArithmeticException|NoSuchElementException)\\(\"\"\\);");
    }

    private static void rule11Sizes(String code) {
        due("classes at most", 0, () -> Math.max(0, allClasses().length - MOST_CLASSES));
        for (Class<?> one : allClasses()) {
            int fields = 0;
            for (Field field : one.getDeclaredFields()) {
                fields += Modifier.isStatic(field.getModifiers()) ? 0 : 1;
            }
            check("fields of " + one.getName(), fields <= MOST_FIELDS ? "few" : "too many: " + fields, "few");
        }
        Matcher heads = Pattern.compile("(?m)^( +)[\\w\\[\\] ]+ (\\w+)\\(([^)]*)\\)[^;{]*\\{$").matcher(code);
        while (heads.find()) {
            if (!heads.group().matches("(?s) *(if|for|while|switch|\\} else).*")) {
                sizesOfMethod(code, heads);
            }
        }
    }

    /** A method ends with the brace that stands as far in as its head. */
    private static void sizesOfMethod(String code, Matcher head) {
        int end = code.indexOf("\n" + head.group(1) + "}\n", head.start());
        long lines = code.substring(head.start(), end).lines().count() + 1;
        int parameters = head.group(3).isBlank() ? 0 : head.group(3).split(",").length;
        check("lines of " + head.group(2), lines <= MOST_LINES ? "few" : "too many: " + lines, "few");
        check("parameters of " + head.group(2), parameters <= MOST_PARAMETERS ? "few" : "too many: " + parameters, "few");
    }

    private static Class<?>[] allClasses() {
        Class<?>[] inside = SsaForge.class.getDeclaredClasses();
        Class<?>[] all = Arrays.copyOf(inside, inside.length + 1);
        all[inside.length] = SsaForge.class;
        return all;
    }
}
