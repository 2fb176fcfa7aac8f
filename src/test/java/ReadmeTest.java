import java.io.IOException;
import java.lang.reflect.InvocationTargetException;
import java.lang.reflect.Method;
import java.nio.charset.StandardCharsets;
import java.nio.file.Files;
import java.nio.file.Path;
import java.util.ArrayList;
import java.util.List;
import java.util.regex.Matcher;
import java.util.regex.Pattern;

/** The answers that README.md tells in its examples are right, and it tells of every call. */
public final class ReadmeTest extends Checks {
    private static final Pattern CALL = Pattern.compile("x\\.(\\w+)\\(([^)]*)\\); *// (-?[0-9]+|0x[0-9a-f]{1,16}L|throws \\w+)(:.*)?");
    private static final Pattern READ = Pattern.compile("Call\\.read\\(x, \"([^\"]*)\"\\); *// (-?[0-9]+)(:.*)?");
    private static final String LISTING = "Call.listing(x);";
    private static final String LISTED = "//   ";

    private SsaForge x = new SsaForge();
    private final List<String> listed = new ArrayList<>();
    private String listing = null;

    private ReadmeTest() {
    }

    public static void main(String[] args) throws IOException {
        List<String> lines = Files.readAllLines(Path.of("README.md"), StandardCharsets.ISO_8859_1);
        ReadmeTest test = new ReadmeTest();
        int examples = 0;
        boolean inside = false;
        for (String line : lines) {
            if (line.startsWith("```")) {
                inside = line.equals("```java");
                examples += inside ? 1 : 0;
                test.endListing();
            } else if (inside) {
                test.follow(line);
            }
        }
        check("there are examples", examples > 0 ? "yes" : "no", "yes");
        everyCallIsTold(String.join("\n", lines));
        finish();
    }

    /** Each row of the table of calls names the exceptions that the call's head does. */
    private static void everyCallIsTold(String readme) {
        for (Method method : SsaForge.class.getMethods()) {
            if (method.getDeclaringClass() != SsaForge.class) {
                continue;
            }
            Matcher row = Pattern.compile("(?m)^\\| `" + method.getName() + "\\(.*$").matcher(readme);
            String told = row.find() ? row.group() : "";
            check("a row for " + method.getName(), told.isEmpty() ? "none" : "there", "there");
            for (Class<?> thrown : method.getExceptionTypes()) {
                String name = thrown.getSimpleName();
                check("the row for " + method.getName(), told.contains(name) ? "tells " + name : told, "tells " + name);
            }
        }
    }

    private void follow(String line) {
        if (listing != null && line.startsWith(LISTED)) {
            listed.add(line.substring(LISTED.length()));
            return;
        }
        endListing();
        Matcher call = CALL.matcher(line);
        Matcher read = READ.matcher(line);
        if (line.equals("SsaForge x = new SsaForge();")) {
            x = new SsaForge();
        } else if (call.matches()) {
            check(line, answer(call.group(1), call.group(2)), due(call.group(3)));
        } else if (read.matches()) {
            due(line, Long.parseLong(read.group(2)), () -> Call.read(x, read.group(1)));
        } else if (line.equals(LISTING)) {
            listing = Call.listing(x);
        } else {
            check("a line that is no call with its answer", line, "");
        }
    }

    private void endListing() {
        if (listing != null) {
            check("the listing in README.md", listing, String.join("\n", listed) + "\n");
        }
        listing = null;
        listed.clear();
    }

    private static String due(String told) {
        if (told.startsWith("0x")) {
            return Long.toString(Long.parseUnsignedLong(told.substring(2, told.length() - 1), 16));
        }
        return told.replace("throws ", "throws.");
    }

    private String answer(String name, String arguments) {
        String[] written = arguments.isBlank() ? new String[0] : arguments.split(", *");
        Class<?>[] types = new Class<?>[written.length];
        Object[] values = new Object[written.length];
        for (int i = 0; i < written.length; i++) {
            types[i] = int.class;
            values[i] = Long.decode(written[i]).intValue();
        }
        try {
            return String.valueOf(SsaForge.class.getMethod(name, types).invoke(x, values));
        } catch (InvocationTargetException e) {
            return "throws." + e.getCause().getClass().getSimpleName();
        } catch (ReflectiveOperationException e) {
            return "no such call";
        }
    }
}
