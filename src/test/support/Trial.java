import java.io.IOException;
import java.lang.reflect.Method;
import java.nio.file.Files;
import java.nio.file.Path;
import java.util.HashMap;
import java.util.Map;

/** What the tests share. A test stands under this class, so that it calls these by their bare names. */
abstract class Trial {
    static final int BAD = GooseCounty.BAD, NO = GooseCounty.NO, FULL = GooseCounty.FULL, NONE = GooseCounty.NONE,
            NOTHING = GooseCounty.NOTHING, KIND = GooseCounty.KIND, INDEX = GooseCounty.INDEX, SIZE = GooseCounty.SIZE;
    static final int MIN = Integer.MIN_VALUE, MAX = Integer.MAX_VALUE;
    static final int GOOSE = 0, GANDER = 1, SLEEPER = 2, MYOPIC = 3, ABROAD = 4, EGG = 5;

    private static final Path DOCUMENT = Path.of("../shared/DOC.md");
    private static final String DOCUMENT_WORDS = documentWords();
    private static final Map<String, Method> METHODS = methods();
    private static final Map<String, Integer> CONSTANTS = Map.of("BAD", BAD, "NO", NO, "FULL", FULL, "NONE", NONE,
            "NOTHING", NOTHING, "KIND", KIND, "INDEX", INDEX, "SIZE", SIZE, "MIN", MIN, "MAX", MAX);
    private static String sentence = "";
    private static int wrong = 0;

    private static String documentWords() {
        try {
            return Files.exists(DOCUMENT) ? Files.readString(DOCUMENT).replaceAll("\\s+", " ") : "";
        } catch (IOException e) {
            return "";
        }
    }

    private static Map<String, Method> methods() {
        Map<String, Method> found = new HashMap<>();
        for (Method m : GooseCounty.class.getMethods()) {
            if (m.getDeclaringClass() == GooseCounty.class) {
                found.put(m.getName(), m);
            }
        }
        return found;
    }

    /** The answers from here on are those that these words of the document ask for. */
    static void says(String words) {
        sentence = words;
        if (!DOCUMENT_WORDS.isEmpty() && !DOCUMENT_WORDS.contains(words)) {
            fail("the document has no such words");
        }
    }

    static void fail(String what) {
        wrong++;
        System.out.println((sentence.isEmpty() ? "" : "[" + sentence + "] ") + what);
    }

    static void due(String call, int got, int want) {
        if (got != want) {
            fail(call + " answered " + got + ", due is " + want);
        }
    }

    static void end(String good) {
        System.out.println(wrong == 0 ? good : wrong + " answers are not as due");
        if (wrong != 0) {
            System.exit(1);
        }
    }

    /** A number, or the name of a constant. */
    static int number(String word) {
        return CONSTANTS.containsKey(word) ? CONSTANTS.get(word) : Integer.parseInt(word);
    }

    /** A call written as a row of words: its name, then its numbers. */
    static int call(GooseCounty x, String row) {
        String[] words = row.trim().split(" +");
        Object[] numbers = new Object[words.length - 1];
        for (int i = 0; i < numbers.length; i++) {
            numbers[i] = number(words[i + 1]);
        }
        try {
            return (int) METHODS.get(words[0]).invoke(x, numbers);
        } catch (ReflectiveOperationException e) {
            fail(row + " threw " + e.getCause());
            return 0;
        }
    }

    private static int four(String bytes, int from) {
        int v = 0;
        for (int i = from; i < from + 4; i++) {
            v = v << 8 | (i < bytes.length() ? bytes.charAt(i) & 255 : 0);
        }
        return v;
    }

    /** Puts a text on the tape, behind what is there, without reading it. */
    static void type(GooseCounty x, String text) {
        int before = x.count(6);
        for (int i = 0; i < text.length(); i += 12) {
            x.feed(four(text, i), four(text, i + 4), four(text, i + 8));
        }
        due("trim behind " + text, x.trim(before + text.length()), before + text.length());
    }

    static int law(GooseCounty x, String text) {
        type(x, text);
        return x.text();
    }

    /** A text with a fault: nothing comes of it, and the tape is used up. */
    static void fault(String text, int place) {
        GooseCounty x = new GooseCounty();
        due("fault of '" + text + "'", law(x, text), -100 - place);
        due("texts behind '" + text + "'", x.count(4), 0);
        due("tape behind '" + text + "'", x.count(6), 0);
    }

    static void fee(String text, int gives) {
        GooseCounty x = new GooseCounty();
        due("text 'fee " + text + "'", law(x, "fee " + text), 0);
        due("fee " + text, x.fee(), gives);
    }

    /** One of each kind, all with sight 60 and age 20, kind k in yard k, so that plain look is 50. */
    static GooseCounty six() {
        GooseCounty x = new GooseCounty();
        for (int kind = 0; kind < 6; kind++) {
            x.goose(kind, 60, 20, kind);
        }
        return x;
    }

    static GooseCounty one(int kind, int sight, int age, int yard) {
        GooseCounty x = new GooseCounty();
        x.goose(kind, sight, age, yard);
        return x;
    }

    /** Lets days go by, as many as one likes. */
    static void pass(GooseCounty x, int days) {
        for (int left = days; left > 0; left -= 100) {
            x.days(Math.min(100, left));
        }
    }

    static int drawn(int z) {
        return z * 1103515245 + 12345;
    }
}
