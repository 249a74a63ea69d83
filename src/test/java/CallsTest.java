import java.io.File;
import java.io.IOException;
import java.io.PrintWriter;
import java.io.StringWriter;
import java.nio.file.Files;
import java.nio.file.Path;
import java.util.HashMap;
import java.util.HashSet;
import java.util.Map;
import java.util.Set;
import java.util.TreeSet;
import java.util.regex.Matcher;
import java.util.regex.Pattern;
import java.util.spi.ToolProvider;

/** The rules of LANGUAGE.md on calls: which of the library, how deep, and none that throws. */
public final class CallsTest {
    private static final String SOURCE = "src/main/java/HopHomes.java";
    private static final int DEEPEST = 8;

    private static final Pattern QUALIFIED = Pattern.compile("\\b([A-Z][a-z]\\w*)\\.(\\w+)");
    private static final Pattern CALL = Pattern.compile("invoke\\w+ .*Method (\\S+)");
    private static final Pattern HEAD = Pattern.compile("  (?! ).*?([\\w$]+)\\((.*)\\);");

    /** What the rules list and the class uses; a constant of the library does not stand there. */
    private static final Set<String> LISTED =
            Set.of("Math.abs", "Math.min", "Math.max", "Math.floorMod", "System.arraycopy");

    private static final Map<String, Set<String>> CALLS = new HashMap<>();
    private static final Map<String, Integer> DEPTHS = new HashMap<>();

    public static void main(String[] args) throws IOException {
        libraryInTheSource();
        ToolProvider javap = ToolProvider.findFirst("javap").orElse(null);
        if (javap == null) {
            System.out.println("there is no javap here, so that calls are not counted");
        } else {
            readCalls(javap);
            libraryInTheClasses();
            depths();
        }
        Check.end();
    }

    private static void libraryInTheSource() throws IOException {
        String source = Files.readString(Path.of(SOURCE))
                .replaceAll("(?s)/\\*.*?\\*/", "").replaceAll("//[^\n]*", "");
        Set<String> own = new HashSet<>(Set.of("HopHomes"));
        for (Class<?> one : HopHomes.class.getDeclaredClasses()) {
            own.add(one.getSimpleName());
        }
        Matcher matcher = QUALIFIED.matcher(source);
        while (matcher.find()) {
            Check.holds(matcher.group() + " stands in the list of the library",
                    own.contains(matcher.group(1)) || LISTED.contains(matcher.group()));
        }
    }

    /** The classes as the compiler wrote them, with one row for each method and each call. */
    private static void readCalls(ToolProvider javap) {
        File folder = new File(HopHomes.class.getProtectionDomain().getCodeSource()
                .getLocation().getPath());
        for (File file : folder.listFiles()) {
            if (file.getName().matches("HopHomes(\\$\\w+)?\\.class")) {
                StringWriter told = new StringWriter();
                PrintWriter out = new PrintWriter(told);
                int end = javap.run(out, out, "-c", "-p", file.getPath());
                out.flush();
                Check.due("javap of " + file.getName(), end, 0);
                readClass(file.getName().replace(".class", ""), told.toString());
            }
        }
        Check.holds("methods are found: " + CALLS.size(), CALLS.size() > 60);
    }

    private static void readClass(String name, String told) {
        Check.holds("nothing is caught in " + name, !told.contains("Exception table"));
        Check.holds("nothing is thrown in " + name, !told.contains("athrow"));
        String method = "";
        for (String line : told.split("\n")) {
            Matcher head = HEAD.matcher(line);
            Matcher call = CALL.matcher(line);
            if (head.matches()) {
                boolean constructs = head.group(1).equals(name);
                method = name + "." + (constructs ? "<init>" : head.group(1));
                // No two methods of a class bear the same name, so that the name is enough.
                Check.holds("a method of its own: " + method, !CALLS.containsKey(method));
                CALLS.put(method, new TreeSet<>());
            } else if (call.find()) {
                String called = call.group(1).replace("\"", "").replaceAll(":.*", "");
                CALLS.get(method).add(called.contains(".") ? called : name + "." + called);
            }
        }
    }

    private static void libraryInTheClasses() {
        for (Set<String> called : CALLS.values()) {
            for (String one : called) {
                String plain = one.replace("java/lang/", "");
                Check.holds(one + " is one of its own or stands in the list of the library",
                        CALLS.containsKey(one) || LISTED.contains(plain)
                        || plain.equals("Object.<init>"));
            }
        }
    }

    private static void depths() {
        int deepest = 0;
        for (String method : CALLS.keySet()) {
            int depth = depthOf(method, new HashSet<>());
            Check.holds(method + " is at most eight deep: " + depth, depth <= DEEPEST);
            deepest = Math.max(deepest, depth);
        }
        Check.holds("calls in calls are found: " + deepest, deepest > 4);
    }

    private static int depthOf(String method, Set<String> open) {
        Integer known = DEPTHS.get(method);
        if (known != null) {
            return known;
        }
        boolean again = !open.add(method);
        Check.holds(method + " is not called again while it is open", !again);
        int below = 0;
        if (!again) {
            for (String called : CALLS.getOrDefault(method, Set.of())) {
                below = Math.max(below, depthOf(called, open));
            }
            open.remove(method);
        }
        DEPTHS.put(method, below + 1);
        return below + 1;
    }
}
