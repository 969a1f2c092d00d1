import java.lang.management.ManagementFactory;
import java.lang.reflect.Constructor;
import java.lang.reflect.Field;
import java.lang.reflect.Method;
import java.lang.reflect.Modifier;
import java.nio.file.Files;
import java.nio.file.Path;
import java.util.ArrayList;
import java.util.List;
import java.util.TreeSet;
import java.util.regex.Matcher;
import java.util.regex.Pattern;

/** The public face; the rules of LANGUAGE.md that can be seen in the source; how much the calls of a run make. */
public final class FaceTest {
    private static final String SOURCE = "src/main/java/GooseCounty.java";
    private static final String FACE = "goose/4 told/2 as/2 turns/2 set/3 needs/2 yardOf/2 rule/2 deal/1 seed/1 drive/2 strike/1 "
        + "days/1 county/1 behind/2 holds/1 meets/2 place/3 becomes/3 eyes/2 like/2 fee/0 fine/1 feed/3 trim/1 text/0 "
        + "textTold/2 why/1 sheet/3 mark/3 pour/1 reads/1 copy/5 lay/3 ask/2 item/2 rest/2 tell/1 check/1 keep/0 back/0 count/1";
    private static int wrong = 0;

    private static void due(boolean good, String what) {
        if (!good) {
            wrong++;
            System.out.println("not as due: " + what);
        }
    }

    private static void face() throws IllegalAccessException {
        due(Modifier.isPublic(GooseCounty.class.getModifiers()) && Modifier.isFinal(GooseCounty.class.getModifiers()), "class");
        TreeSet<String> got = new TreeSet<>();
        for (Method m : GooseCounty.class.getDeclaredMethods()) {
            boolean open = Modifier.isPublic(m.getModifiers());
            due(open || Modifier.isPrivate(m.getModifiers()), m.getName() + " is neither public nor private");
            due(!open || m.getReturnType() == int.class, m.getName() + " answers no int");
            for (Class<?> type : m.getParameterTypes()) {
                due(!open || type == int.class, m.getName() + " takes no int");
            }
            if (open) {
                got.add(m.getName() + "/" + m.getParameterCount());
            } else {
                due(!(" " + FACE).contains(" " + m.getName() + "/"), m.getName() + " is private, too");
            }
        }
        due(got.equals(new TreeSet<>(List.of(FACE.split(" ")))), "methods " + got);
        TreeSet<String> constants = new TreeSet<>();
        for (Field f : GooseCounty.class.getDeclaredFields()) {
            if (!Modifier.isPrivate(f.getModifiers())) {
                due(Modifier.isPublic(f.getModifiers()) && Modifier.isStatic(f.getModifiers()), f.getName());
                constants.add(f.getName() + "=" + f.getInt(null));
            }
            due(!Modifier.isStatic(f.getModifiers()) || Modifier.isFinal(f.getModifiers()), f.getName() + " is not final");
        }
        due(constants.equals(new TreeSet<>(List.of("BAD=-1000000001", "NO=-1000000002", "FULL=-1000000003",
            "NONE=-1000000005", "NOTHING=-1000000011", "KIND=-1000000012", "INDEX=-1000000013", "SIZE=-1000000014"))),
            "constants " + constants);
        Constructor<?>[] made = GooseCounty.class.getDeclaredConstructors();
        due(made.length == 1 && made[0].getParameterCount() == 0 && Modifier.isPublic(made[0].getModifiers()), "constructor");
        Class<?>[] inside = GooseCounty.class.getDeclaredClasses();
        due(inside.length <= 11, "classes inside");
        for (Class<?> c : inside) {
            due(Modifier.isStatic(c.getModifiers()) && !Modifier.isPublic(c.getModifiers()), c + " inside");
            due(c.getDeclaredFields().length <= 40, c + " has many fields");
            for (Method m : c.getDeclaredMethods()) {
                due(!(" " + FACE).contains(" " + m.getName() + "/"), c + " has a method " + m.getName());
            }
        }
    }

    private static void language() throws java.io.IOException {
        String source = Files.readString(Path.of(SOURCE));
        String code = source.replaceAll("(?s)/\\*.*?\\*/", " ").replaceAll("//[^\n]*", " ").replaceAll("\"[^\"\n]*\"", "\"\"");
        String[] banned = {"\\bthrow\\b", "\\bthrows\\b", "\\btry\\b", "\\bcatch\\b", "\\bsynchronized\\b", "\\bassert\\b", "->", "::",
            "\\bpackage\\b", "\\bSystem\\.(?!arraycopy)", "\\bArrays\\.(?!copyOf|copyOfRange|fill)", "Exact\\b", "\\bstatic\\s*\\{",
            "\\bvar\\b", "\\bObject\\b", "\\bhashCode\\b", "\\btoString\\b", "\\bRandom\\b", "\\bThread\\b", "while \\(true\\)",
            "\\bfor \\(;;", "\\bvolatile\\b", "\\bnative\\b"};
        for (String b : banned) {
            due(!Pattern.compile(b).matcher(code).find(), b + " stands in the source");
        }
        Matcher imports = Pattern.compile("import ([^;]+);").matcher(code);
        while (imports.find()) {
            due(imports.group(1).equals("java.util.Arrays"), "import " + imports.group(1));
        }
        due(source.chars().allMatch(c -> c == '\n' || c >= 32 && c < 127), "signs of the source");
        methodLengths(code);
    }

    private static void methodLengths(String code) {
        String[] lines = code.split("\n");
        int from = -1;
        String end = "";
        for (int i = 0; i < lines.length; i++) {
            Matcher head = Pattern.compile("^( +)[A-Za-z].*\\) \\{$").matcher(lines[i]);
            if (from < 0 && head.find() && !lines[i].contains(" class ")) {
                from = i;
                end = head.group(1) + "}";
                due(lines[i].split(",").length <= 7, "seven numbers at most: " + lines[i]);
            } else if (from >= 0 && lines[i].equals(end)) {
                due(i - from < 60, "long method: " + lines[from]);
                from = -1;
            }
        }
    }

    private static List<int[]> bytes(String text) {
        List<int[]> rows = new ArrayList<>();
        for (int i = 0; i < text.length(); i += 12) {
            int[] v = new int[3];
            for (int b = 0; b < 12; b++) {
                v[b / 4] = v[b / 4] << 8 | (i + b < text.length() ? text.charAt(i + b) : 32);
            }
            rows.add(v);
        }
        return rows;
    }

    /** The dearest calls, with a long law of looking: they must make nothing. */
    private static int dearest(GooseCounty x, int i) {
        int a = x.eyes(60, 99999) ^ x.place(i % 10, 60, 1) ^ x.becomes(i % 10, 60, 1) ^ x.holds(i % 6) ^ x.drive(i % 6, 0);
        int b = x.behind(100, 3) ^ x.like(0, 1) ^ x.meets(0, 1) ^ x.days(1) ^ x.check(30) ^ x.back() ^ x.keep() ^ x.fee();
        return a ^ b ^ x.lay(i % 5, 2, 0) ^ x.lay(i % 5, 1, 0) ^ x.copy(0, 0, 0, 1, 23) ^ x.sheet(1, 1, 24) ^ x.tell(1);
    }

    private static void room() {
        com.sun.management.ThreadMXBean counter = (com.sun.management.ThreadMXBean) ManagementFactory.getThreadMXBean();
        long id = Thread.currentThread().getId();
        long before = counter.getThreadAllocatedBytes(id);
        GooseCounty x = new GooseCounty();
        long made = counter.getThreadAllocatedBytes(id) - before;
        due(made < 40000, "a new object makes " + made + " bytes");
        x.deal(10);
        x.needs(0, 99);
        x.sheet(0, 1, 24);
        x.keep();
        for (int[] v : bytes("look g+" + "a*2-".repeat(10) + "(y>3&n<9|!g)*7+g")) {
            x.feed(v[0], v[1], v[2]);
        }
        due(x.text() == 0, "the long law");
        x.keep();
        int sum = dearest(x, 0);
        before = counter.getThreadAllocatedBytes(id);
        for (int i = 1; i < 20; i++) {
            sum ^= dearest(x, i);
        }
        made = counter.getThreadAllocatedBytes(id) - before;
        due(made < 4000, "the dearest calls make " + made + " bytes (" + sum + ")");
    }

    public static void main(String[] args) throws Exception {
        face();
        language();
        room();
        System.out.println(wrong == 0 ? "face, language and room are as due" : wrong + " things are not as due");
        if (wrong != 0) {
            System.exit(1);
        }
    }
}
