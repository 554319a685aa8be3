import java.lang.reflect.Method;
import java.lang.reflect.Modifier;
import java.nio.file.Files;
import java.nio.file.Path;
import java.util.HashMap;
import java.util.Map;
import java.util.Set;
import java.util.TreeSet;
import java.util.regex.Matcher;
import java.util.regex.Pattern;

/** README.md's calls, one after the other on one object, give the answers that stand behind them. */
public final class ReadmeTest {
    private static final Check CHECK = new Check("ReadmeTest");
    private static final Pattern TEXT = Pattern.compile("String text = \"([^\"]+)\";");
    private static final Pattern CALL = Pattern.compile("x\\.(\\w+)\\(([-\\d, ]*)\\); +// (-?\\d+)\\b.*");
    private static final Pattern REFUSAL = Pattern.compile("\\| (-\\d+) \\| (?:finding (\\d), )?([A-Z]+) \\|.*");

    public static void main(String[] args) throws Exception {
        Map<String, Method> face = new HashMap<>();
        for (Method m : UnitHours.class.getDeclaredMethods()) {
            if (Modifier.isPublic(m.getModifiers())) {
                face.put(m.getName(), m);
            }
        }
        Set<String> lacking = new TreeSet<>(face.keySet());
        UnitHours x = new UnitHours();
        boolean isCode = false;
        for (String line : Files.readString(Path.of("README.md")).split("\n")) {
            Matcher text = TEXT.matcher(line);
            Matcher call = CALL.matcher(line);
            if (line.startsWith("```")) {
                isCode = line.equals("```java");
            } else if (isCode && text.matches()) {
                Check.feedText(x, text.group(1));
            } else if (isCode && call.matches()) {
                lacking.remove(call.group(1));
                CHECK.due(line, answer(x, face.get(call.group(1)), call.group(2)), Long.parseLong(call.group(3)));
            } else if (isCode) {
                CHECK.holds("a line that is no call: " + line, line.matches("UnitHours x = .*|for .*"));
            } else {
                refusal(line);
            }
        }
        CHECK.holds("each call stands there, but for " + lacking, lacking.isEmpty());
        CHECK.finish();
    }

    private static long answer(UnitHours x, Method m, String told) throws Exception {
        String[] parts = told.isEmpty() ? new String[0] : told.split(", *");
        Object[] arguments = new Object[parts.length];
        for (int k = 0; k < parts.length; k++) {
            arguments[k] = Integer.parseInt(parts[k]);
        }
        return ((Number) m.invoke(x, arguments)).longValue();
    }

    private static void refusal(String line) throws Exception {
        Matcher row = REFUSAL.matcher(line);
        if (row.matches()) {
            int due = row.group(2) == null ? UnitHours.class.getField(row.group(3)).getInt(null)
                    : -1000010 - Integer.parseInt(row.group(2));
            CHECK.due(line, Integer.parseInt(row.group(1)), due);
        }
    }
}
