import java.io.PrintWriter;
import java.io.StringWriter;
import java.nio.file.Files;
import java.nio.file.Path;
import java.util.ArrayList;
import java.util.HashSet;
import java.util.List;
import java.util.Map;
import java.util.Optional;
import java.util.Set;
import java.util.TreeMap;
import java.util.TreeSet;
import java.util.regex.Matcher;
import java.util.regex.Pattern;
import java.util.spi.ToolProvider;

/** The rules of LANGUAGE.md that can be seen in the compiled class: what it calls, how deep, and what it never does. */
public final class LanguageTest extends Trial {
    private static final int DEEPEST = 8;
    /** Of rule 4, what the class uses; one that uses more of it comes to stand here. */
    private static final Set<String> LIBRARY = Set.of("java/lang/Object.<init>", "java/lang/Math.min", "java/lang/Math.max",
            "java/lang/Math.abs", "java/lang/Integer.bitCount", "java/lang/System.arraycopy", "java/util/Arrays.fill",
            "java/util/Arrays.copyOf", "java/lang/String.length", "java/lang/String.charAt", "java/lang/String.indexOf");
    private static final Pattern CLASS = Pattern.compile("^(?:\\w+ )*class (\\S+).*\\{$");
    private static final Pattern METHOD = Pattern.compile("^  (?:[\\w\\[\\].$]+ )*?([\\w.$]+)\\(.*\\);$");
    private static final Pattern CALL = Pattern.compile("^ +\\d+: invoke\\w+ .*// (?:Interface)?Method ([^:]+):.*$");
    private static final Pattern NEVER = Pattern.compile("^ +\\d+: (athrow|invokedynamic|monitorenter|multianewarray|checkcast)\\b.*$");

    /** By method: the own methods that it calls. */
    private static final Map<String, Set<String>> CALLS = new TreeMap<>();
    private static final Set<String> RECURSIVE = new HashSet<>();

    private static List<String> compiled(ToolProvider javap) throws Exception {
        Path folder = Path.of(GooseCounty.class.getProtectionDomain().getCodeSource().getLocation().toURI());
        List<String> words = new ArrayList<>(List.of("-c", "-p"));
        try (var files = Files.list(folder)) {
            files.filter(f -> f.getFileName().toString().matches("GooseCounty(\\$.*)?\\.class")).forEach(f -> words.add(f.toString()));
        }
        StringWriter out = new StringWriter();
        PrintWriter to = new PrintWriter(out);
        due("javap", javap.run(to, to, words.toArray(new String[0])), 0);
        to.flush();
        return out.toString().lines().toList();
    }

    private static void read(List<String> lines) {
        String inside = "";
        String method = "";
        for (String line : lines) {
            Matcher m = CLASS.matcher(line);
            if (m.matches()) {
                inside = m.group(1);
                continue;
            }
            m = METHOD.matcher(line);
            if (m.matches()) {
                method = inside + "." + (m.group(1).equals(inside) ? "<init>" : m.group(1));
                CALLS.putIfAbsent(method, new TreeSet<>());
                continue;
            }
            m = CALL.matcher(line);
            if (m.matches()) {
                called(method, inside, m.group(1).replace("\"", ""));
            }
            if (NEVER.matcher(line).matches()) {
                fail(method + " has " + line.trim());
            }
        }
    }

    private static void called(String method, String inside, String name) {
        String whole = name.contains(".") ? name : inside + "." + name;
        if (whole.startsWith("GooseCounty")) {
            CALLS.get(method).add(whole);
        } else if (!LIBRARY.contains(whole)) {
            fail(method + " calls " + whole);
        }
    }

    private static boolean comesTo(String from, String to, Set<String> seen) {
        for (String next : CALLS.getOrDefault(from, Set.of())) {
            if (next.equals(to) || seen.add(next) && comesTo(next, to, seen)) {
                return true;
            }
        }
        return false;
    }

    /** How many calls that are no recursion stand open at once, at most, below and with this one. */
    private static int depth(String method, Set<String> open) {
        int most = 0;
        for (String next : CALLS.getOrDefault(method, Set.of())) {
            if (open.add(next)) {
                most = Math.max(most, depth(next, open));
                open.remove(next);
            }
        }
        return most + (RECURSIVE.contains(method) ? 0 : 1);
    }

    public static void main(String[] args) throws Exception {
        Optional<ToolProvider> javap = ToolProvider.findFirst("javap");
        if (javap.isEmpty()) {
            System.out.println("this Java has no javap: the compiled class was not looked at");
            return;
        }
        read(compiled(javap.get()));
        for (String method : CALLS.keySet()) {
            if (comesTo(method, method, new HashSet<>())) {
                RECURSIVE.add(method);
                if (!method.startsWith("GooseCounty$Reader.read")) {
                    fail(method + " comes to call itself");
                }
            }
        }
        for (String method : CALLS.keySet()) {
            int deep = depth(method, new HashSet<>(Set.of(method)));
            if (deep > DEEPEST) {
                fail(method + " goes " + deep + " deep");
            }
        }
        due("methods found", CALLS.size() > 100 ? 1 : 0, 1);
        end("the compiled class keeps to the language");
    }
}
