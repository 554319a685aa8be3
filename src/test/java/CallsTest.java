import java.io.PrintWriter;
import java.io.StringWriter;
import java.util.ArrayList;
import java.util.HashMap;
import java.util.List;
import java.util.Map;
import java.util.Set;
import java.util.TreeSet;
import java.util.regex.Matcher;
import java.util.regex.Pattern;
import java.util.spi.ToolProvider;

/** Rules 8 and 11: no call comes back to itself, and none goes more than eight deep. */
public final class CallsTest {
    private static final Check CHECK = new Check("CallsTest");
    private static final Pattern METHOD = Pattern.compile("^  [\\w\\[\\]. ]*?([\\w$.]+)\\(.*\\);$");
    private static final Pattern CALL = Pattern.compile("invoke\\w+ .*Method (\\S+?):");

    private final Map<String, Set<String>> calls = new HashMap<>();

    public static void main(String[] args) {
        CallsTest test = new CallsTest();
        test.read("UnitHours");
        for (Class<?> inside : UnitHours.class.getDeclaredClasses()) {
            test.read(inside.getName());
        }
        CHECK.holds("methods were found: " + test.calls.size(), test.calls.size() > 60);
        for (String method : test.calls.keySet()) {
            List<String> longest = test.longestFrom(method, new ArrayList<>());
            CHECK.holds(String.join(" > ", longest), longest.size() <= 8);
        }
        CHECK.finish();
    }

    private void read(String name) {
        StringWriter out = new StringWriter();
        ToolProvider javap = ToolProvider.findFirst("javap").orElseThrow();
        String path = System.getProperty("java.class.path");
        int code = javap.run(new PrintWriter(out), new PrintWriter(out), "-c", "-p", "-cp", path, name);
        CHECK.due("javap " + name, code, 0);
        String method = "";
        for (String line : out.toString().split("\n")) {
            Matcher begins = METHOD.matcher(line);
            Matcher call = CALL.matcher(line);
            if (begins.matches()) {
                method = name + "." + (begins.group(1).equals(name) ? "<init>" : begins.group(1));
                calls.put(method, new TreeSet<>());
            } else if (call.find() && !method.isEmpty()) {
                String to = call.group(1).replace("\"", "");
                calls.get(method).add(to.contains(".") ? to : name + "." + to);
            }
        }
    }

    private List<String> longestFrom(String method, List<String> path) {
        List<String> longest = new ArrayList<>();
        if (path.contains(method)) {
            CHECK.holds("a call comes back to itself: " + method + " by " + path, false);
            return longest;
        }
        path.add(method);
        for (String to : calls.getOrDefault(method, Set.of())) {
            List<String> behind = longestFrom(to, path);
            if (behind.size() > longest.size()) {
                longest = behind;
            }
        }
        path.remove(method);
        longest.add(0, method);
        return longest;
    }
}
