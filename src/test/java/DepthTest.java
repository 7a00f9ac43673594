import java.io.PrintWriter;
import java.io.StringWriter;
import java.util.Map;
import java.util.Optional;
import java.util.Set;
import java.util.TreeMap;
import java.util.TreeSet;
import java.util.regex.Matcher;
import java.util.regex.Pattern;
import java.util.spi.ToolProvider;

/** How deep calls go within the class, as its compiled code tells (LANGUAGE.md, rules 8 and 11). */
public final class DepthTest {
    private static final Check CHECK = new Check("DepthTest");
    private static final int DEEPEST = 8;
    private static final Pattern METHOD = Pattern.compile("  (?:\\S.* )?([\\w$]+)\\(.*\\)(?: throws .*)?;");
    private static final Pattern CALL = Pattern.compile(
            ".*: invoke\\w+ .*// (?:Interface)?Method (?:([\\w$/]+)\\.)?\"?([\\w<>$]+)\"?:.*");
    // These read one another within brackets; the document's "within 6 others" keeps that low.
    private static final Set<String> READING_BRACKETS = Set.of("readOr", "readAnd", "readOne", "readNot",
            "readSum", "readTerm", "readUnit", "readBrackets");

    private final Map<String, Set<String>> calls = new TreeMap<>();
    private final Map<String, Set<String>> below = new TreeMap<>();
    private final Map<String, Integer> depths = new TreeMap<>();

    public static void main(String[] args) {
        Optional<ToolProvider> javap = ToolProvider.findFirst("javap");
        if (javap.isEmpty()) {
            System.out.println("DepthTest: this machine does not tell the compiled code");
            return;
        }
        DepthTest test = new DepthTest();
        test.read(javap.get(), CradleTreaty.class);
        for (Class<?> inside : CradleTreaty.class.getDeclaredClasses()) {
            test.read(javap.get(), inside);
        }
        test.look();
        CHECK.finish();
    }

    private void read(ToolProvider javap, Class<?> one) {
        StringWriter text = new StringWriter();
        javap.run(new PrintWriter(text), new PrintWriter(text), "-c", "-p", "-cp",
                System.getProperty("java.class.path"), one.getName());
        String caller = "";
        for (String line : text.toString().split("\\R")) {
            Matcher method = METHOD.matcher(line);
            Matcher call = CALL.matcher(line);
            if (method.matches()) {
                boolean makes = method.group(1).equals(one.getName());
                caller = one.getName() + "." + (makes ? "<init>" : method.group(1));
                calls.putIfAbsent(caller, new TreeSet<>());
            } else if (call.matches() && calls.containsKey(caller)) {
                String owner = call.group(1) == null ? one.getName() : call.group(1);
                if (owner.startsWith("CradleTreaty")) {
                    calls.get(caller).add(owner + "." + call.group(2));
                }
            }
        }
    }

    private void look() {
        CHECK.due("methods were found", true, calls.size() > 100);
        for (String caller : calls.keySet()) {
            for (String called : calls.get(caller)) {
                CHECK.due(called + ", called by " + caller + ", was found", true, calls.containsKey(called));
            }
            below.put(caller, allBelow(caller));
        }
        for (String caller : calls.keySet()) {
            boolean calledAgain = below.get(caller).contains(caller);
            String name = caller.replaceFirst(".*\\.", "");
            CHECK.due(caller + " comes to itself again", READING_BRACKETS.contains(name), calledAgain);
            CHECK.due(caller + " goes " + depth(caller) + " deep", true, depth(caller) <= DEEPEST);
        }
        CHECK.due("calls were found", true, depth("CradleTreaty.treaty") > 1);
    }

    private Set<String> allBelow(String caller) {
        Set<String> all = new TreeSet<>();
        Set<String> added = calls.get(caller);
        while (!added.isEmpty()) {
            Set<String> then = new TreeSet<>();
            for (String called : added) {
                if (all.add(called)) {
                    then.addAll(calls.getOrDefault(called, Set.of()));
                }
            }
            added = then;
        }
        return all;
    }

    /** The methods that stand open at once, at the most; those that call one another count as one. */
    private int depth(String caller) {
        Integer known = depths.get(caller);
        if (known != null) {
            return known;
        }
        int deepest = 0;
        Set<String> together = new TreeSet<>(Set.of(caller));
        for (String called : below.get(caller)) {
            if (below.get(called).contains(caller)) {
                together.add(called);
            }
        }
        for (String one : together) {
            for (String called : calls.get(one)) {
                if (!together.contains(called)) {
                    deepest = Math.max(deepest, depth(called));
                }
            }
        }
        depths.put(caller, deepest + 1);
        return deepest + 1;
    }
}
