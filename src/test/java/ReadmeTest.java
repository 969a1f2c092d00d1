import java.io.IOException;
import java.lang.reflect.Method;
import java.lang.reflect.Modifier;
import java.nio.file.Files;
import java.nio.file.Path;
import java.util.ArrayList;
import java.util.List;
import java.util.regex.Matcher;
import java.util.regex.Pattern;

/** README.md is true: its examples answer what stands beside them; its table has every call, with what it refuses. */
public final class ReadmeTest extends Trial {
    private static final Pattern EXAMPLE = Pattern.compile("^x\\.(\\w+)\\((.*)\\); +// (\\S+): .+$");
    private static final Pattern ROW = Pattern.compile("^\\| `(\\w+)\\((.*)\\)` \\| .+ \\| (.*)\\|$");
    private static final Pattern PROMISE = Pattern.compile("^`int (\\w+)\\(([^)]*)\\)`: (.*)$");
    /** A word that a call can answer, where it stands for an answer: at a sentence's start, or behind a semicolon. */
    private static final Pattern ANSWER = Pattern.compile("(?<=[.;] )(BAD|NO|FULL|NONE|NOTHING|KIND|INDEX|SIZE)(?=[.;: ]|$)");

    private static String plain(String number) {
        String bare = number.replace("GooseCounty.", "");
        return bare.startsWith("0x") ? String.valueOf(Integer.decode(bare)) : bare;
    }

    private static void examples(List<String> lines) {
        GooseCounty x = new GooseCounty();
        int found = 0;
        for (String line : lines) {
            if (!line.startsWith("x.")) {
                continue;
            }
            Matcher m = EXAMPLE.matcher(line);
            if (!m.matches()) {
                fail("no answer beside: " + line);
                continue;
            }
            StringBuilder row = new StringBuilder(m.group(1));
            for (String number : m.group(2).split(", *")) {
                row.append(" ").append(plain(number));
            }
            due(line, call(x, row.toString()), number(m.group(3)));
            found++;
        }
        due("examples", found > 30 ? 1 : 0, 1);
    }

    private static String outsideParentheses(String words) {
        return words.replaceAll("\\([^)]*\\)", "");
    }

    /** What the document says that a call can answer instead, in its order. */
    private static String refusals(String promise) {
        List<String> words = new ArrayList<>();
        Matcher m = ANSWER.matcher(outsideParentheses(promise));
        while (m.find()) {
            words.add(m.group(1));
        }
        return String.join(", ", words);
    }

    private static void table(List<String> lines, List<String> document) {
        List<String> calls = new ArrayList<>();
        List<String> refused = new ArrayList<>();
        for (String line : lines) {
            Matcher m = ROW.matcher(line);
            if (m.matches()) {
                calls.add(m.group(1) + "(" + m.group(2) + ")");
                refused.add(outsideParentheses(m.group(3)).replaceAll(" *, *", ", ").trim());
            }
        }
        int at = 0;
        for (String line : document) {
            Matcher m = PROMISE.matcher(line);
            if (m.matches()) {
                String call = m.group(1) + "(" + m.group(2).replace("int ", "") + ")";
                if (at >= calls.size() || !calls.get(at).equals(call)) {
                    fail("row " + at + " of the table is not " + call);
                } else if (!refused.get(at).equals(refusals(m.group(3)))) {
                    fail(call + ": the table has " + refused.get(at) + ", the document " + refusals(m.group(3)));
                }
                at++;
            }
        }
        due("rows", calls.size(), at);
    }

    private static int publicCalls() {
        int n = 0;
        for (Method m : GooseCounty.class.getDeclaredMethods()) {
            n += Modifier.isPublic(m.getModifiers()) ? 1 : 0;
        }
        return n;
    }

    private static void tests(String page) throws IOException {
        try (var files = Files.list(Path.of("src/test/java"))) {
            for (Path file : files.toList()) {
                String name = file.getFileName().toString().replace(".java", "");
                if (!page.contains("- `" + name + "`: ")) {
                    fail(name + " is not told of");
                }
            }
        }
    }

    public static void main(String[] args) throws IOException {
        List<String> lines = Files.readAllLines(Path.of("README.md"));
        List<String> document = Files.readAllLines(Path.of("../shared/DOC.md"));
        examples(lines);
        table(lines, document);
        due("calls of the class", publicCalls(), 42);
        tests(String.join("\n", lines));
        end("README.md is true");
    }
}
