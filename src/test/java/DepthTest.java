import java.io.File;
import java.io.PrintWriter;
import java.io.StringWriter;
import java.lang.reflect.Method;
import java.util.ArrayList;
import java.util.LinkedHashSet;
import java.util.List;
import java.util.Map;
import java.util.Set;
import java.util.TreeMap;
import java.util.TreeSet;
import java.util.regex.Matcher;
import java.util.regex.Pattern;
import java.util.spi.ToolProvider;

/** LANGUAGE.md, 8 and 11: which methods call themselves, and how deep the others call, as javap tells. */
public final class DepthTest {
    private static final int DEEPEST = 8;
    private static final Pattern CLASS = Pattern.compile("^(?:\\w+ )*class (\\S+)(?: extends (\\S+))? \\{");
    private static final Pattern METHOD = Pattern.compile("^  (?:[\\w$.\\[\\]]+ )*([\\w$]+)\\(.*\\);");
    private static final Pattern CALL = Pattern.compile("invoke(\\w+) .*// Method (?:([\\w$]+)\\.)?\"?([\\w<>]+)\"?:");

    // a method is told by its class and its name: no two of a class share one
    private final Map<String, Set<String>> told = new TreeMap<>();
    private final Map<String, Set<String>> calls = new TreeMap<>();
    private final Map<String, String> above = new TreeMap<>();

    public static void main(String[] args) throws Exception {
        DepthTest test = new DepthTest();
        test.read(javap());
        test.link();
        test.recursion();
        test.depths();
        Check.end("DepthTest");
    }

    private static String javap() throws Exception {
        File place = new File(ChiefGrades.class.getProtectionDomain().getCodeSource().getLocation().toURI());
        List<String> files = new ArrayList<>(List.of("-c", "-p"));
        for (File file : place.listFiles()) {
            if (file.getName().matches("ChiefGrades(\\$\\w+)?\\.class")) files.add(file.getPath());
        }
        StringWriter text = new StringWriter();
        PrintWriter to = new PrintWriter(text);
        int failed = ToolProvider.findFirst("javap").orElseThrow().run(to, to, files.toArray(new String[0]));
        Check.due("javap", failed, 0);
        return text.toString();
    }

    private void read(String text) {
        String type = "", method = "";
        for (String line : text.split("\n")) {
            Matcher m = CLASS.matcher(line);
            if (m.find()) {
                type = m.group(1);
                above.put(type, m.group(2) == null ? "" : m.group(2));
                continue;
            }
            m = METHOD.matcher(line);
            if (m.find()) {
                method = type + "." + (m.group(1).equals(type) ? "<init>" : m.group(1));
                Check.due("one method " + method, told.containsKey(method) ? 1 : 0, 0);
                told.put(method, new TreeSet<>());
                continue;
            }
            m = CALL.matcher(line);
            if (m.find()) told.get(method).add(m.group(1) + " " + (m.group(2) == null ? type : m.group(2)) + " " + m.group(3));
        }
    }

    /** A virtual call may run the body of each class below that has one. */
    private void link() {
        for (String method : told.keySet()) {
            Set<String> to = new TreeSet<>();
            for (String call : told.get(method)) {
                String[] part = call.split(" ");
                for (String type : above.keySet()) {
                    boolean mayBe = part[0].equals("virtual") ? isBelow(type, part[1]) : type.equals(part[1]);
                    if (mayBe && body(type, part[2]) != null) to.add(body(type, part[2]));
                }
            }
            calls.put(method, to);
        }
    }

    private boolean isBelow(String type, String other) {
        for (String t = type; t != null; t = above.get(t)) {
            if (t.equals(other)) return true;
        }
        return false;
    }

    private String body(String type, String name) {
        for (String t = type; t != null; t = above.get(t)) {
            if (told.containsKey(t + "." + name)) return t + "." + name;
        }
        return null;
    }

    private void recursion() {
        Set<String> again = new TreeSet<>();
        for (String method : calls.keySet()) {
            Set<String> reached = new TreeSet<>(calls.get(method));
            for (int size = 0; size != reached.size();) {
                size = reached.size();
                for (String m : new ArrayList<>(reached)) reached.addAll(calls.get(m));
            }
            if (reached.contains(method)) again.add(method);
        }
        String due = "[ChiefGrades$House.readBoth, ChiefGrades$House.readEither, ChiefGrades$House.readPart]";
        Check.due("methods that call themselves: " + again, again.toString().equals(due) ? 1 : 0, 1);
    }

    private void depths() {
        for (String method : calls.keySet()) {
            int depth = depth(method, new LinkedHashSet<>());
            Check.due(method + " calls so deep: " + depth, depth <= DEEPEST ? 1 : 0, 1);
        }
        for (Method m : ChiefGrades.class.getDeclaredMethods()) {
            Check.due("found " + m, calls.containsKey("ChiefGrades." + m.getName()) ? 1 : 0, 1);
        }
    }

    private int depth(String method, LinkedHashSet<String> open) {
        open.add(method);
        int deepest = open.size();
        for (String next : calls.get(method)) {
            if (!open.contains(next)) deepest = Math.max(deepest, depth(next, open));
        }
        open.remove(method);
        return deepest;
    }
}
