import java.lang.reflect.Method;
import java.util.ArrayDeque;
import java.util.ArrayList;
import java.util.Deque;
import java.util.HashMap;
import java.util.List;
import java.util.Map;
import java.util.Random;

/**
 * Long runs of calls by lot: every answer is held against that of Model, a second county written plainly and in another
 * way (worlds that are copied whole, every thought tried out, texts split and not descended into).
 */
public final class ModelTest {
    private static final int BAD = GooseCounty.BAD, NO = GooseCounty.NO, FULL = GooseCounty.FULL, NONE = GooseCounty.NONE,
            NOTHING = GooseCounty.NOTHING, KIND = GooseCounty.KIND, INDEX = GooseCounty.INDEX, SIZE = GooseCounty.SIZE;
    /** Behind its 512th call an object may answer anything; a text or a told row takes at most so many calls at once. */
    private static final int RUNS = 1500, CALLS = 512, AT_ONCE = 14;

    static final class Bird {
        int kind, sight, age, yard, saw;

        Bird(int kind, int sight, int age, int yard, int saw) {
            this.kind = kind;
            this.sight = sight;
            this.age = age;
            this.yard = yard;
            this.saw = saw;
        }

        Bird twin() {
            return new Bird(kind, sight, age, yard, saw);
        }

        boolean is(int k) {
            switch (k) {
                case 0: return true;
                case 1: return kind == 1 || kind == 3;
                case 2: return kind == 2 || kind == 4;
                default: return kind == k;
            }
        }

        int tallies(int as) {
            switch (as) {
                case 0: return 2;
                case 1: return tallies(0) / 2;
                case 3: return tallies(1) - 3;
                case 2: return tallies(0) + 1;
                case 4: return tallies(2);
                default: return 4;
            }
        }

        int wanders(int as) {
            switch (as) {
                case 1: return wanders(0) + 1;
                case 3: return wanders(1) + 1;
                case 2: return wanders(0);
                case 4: return wanders(2) + 3;
                default: return 0;
            }
        }

        int worth(int as) {
            switch (as) {
                case 0: return sight;
                case 1: return worth(0) + saw;
                case 3: return worth(1) / 2;
                case 2: return 99 - age;
                case 4: return worth(2) + 5;
                default: return saw;
            }
        }
    }

    record Word(String s, int at, boolean glued) { }

    /** A text: its words and signs behind the key. */
    static final class Script {
        final int key;
        final List<Word> words;

        Script(int key, List<Word> words) {
            this.key = key;
            this.words = words;
        }

        int operands() {
            int n = 0;
            for (Word w : words) {
                n += Character.isLetterOrDigit(w.s.charAt(0)) ? 1 : 0;
            }
            return n;
        }

        int value(Map<String, Integer> names) {
            return value(words, names);
        }

        private static int lastAtTop(List<Word> w, String signs) {
            int depth = 0;
            for (int i = w.size() - 1; i >= 0; i--) {
                String s = w.get(i).s;
                depth += s.equals(")") ? 1 : s.equals("(") ? -1 : 0;
                if (depth == 0 && s.length() == 1 && signs.contains(s)) {
                    return i;
                }
            }
            return -1;
        }

        private static int value(List<Word> w, Map<String, Integer> names) {
            for (String signs : new String[] {"|", "&", "<=>", "+-", "*/"}) {
                int i = lastAtTop(w, signs);
                if (i >= 0) {
                    int a = value(w.subList(0, i), names);
                    int b = value(w.subList(i + 1, w.size()), names);
                    switch (w.get(i).s.charAt(0)) {
                        case '|': return a != 0 || b != 0 ? 1 : 0;
                        case '&': return a != 0 && b != 0 ? 1 : 0;
                        case '<': return a < b ? 1 : 0;
                        case '=': return a == b ? 1 : 0;
                        case '>': return a > b ? 1 : 0;
                        case '+': return a + b;
                        case '-': return a - b;
                        case '*': return a * b;
                        default: return b == 0 ? 0 : a / b;
                    }
                }
            }
            String s = w.get(0).s;
            if (s.equals("!")) {
                return value(w.subList(1, w.size()), names) == 0 ? 1 : 0;
            }
            if (s.equals("(")) {
                return value(w.subList(1, w.size() - 1), names);
            }
            return names.containsKey(s) ? names.get(s) : Integer.parseInt(s);
        }

        static List<Word> split(String tape) {
            List<Word> words = new ArrayList<>();
            int i = 0;
            while (i < tape.length()) {
                int from = i;
                String rest = tape.substring(i);
                if (rest.matches("(?s)[a-z].*")) {
                    i += rest.length() - rest.replaceFirst("^[a-z]+", "").length();
                } else if (rest.matches("(?s)[0-9].*")) {
                    i += rest.length() - rest.replaceFirst("^[0-9]+", "").length();
                } else {
                    i++;
                    if (rest.charAt(0) == ' ') {
                        continue;
                    }
                }
                boolean glued = from > 0 && tape.substring(from - 1, from + 1).matches("[a-z0-9]{2}");
                words.add(new Word(tape.substring(from, i), from, glued));
            }
            return words;
        }

        /** The place of the fault, or -1. */
        static int fault(String tape) {
            List<Word> words = split(tape);
            String names = "";
            Deque<String> open = new ArrayDeque<>();
            Deque<Boolean> compared = new ArrayDeque<>();
            compared.push(false);
            boolean wanted = true;
            for (int i = 0; i < words.size(); i++) {
                Word w = words.get(i);
                if (w.glued) {
                    return w.at;
                }
                if (i == 0) {
                    if (!w.s.matches("look|fee|fine")) {
                        return w.at;
                    }
                    names = w.s.equals("look") ? "[gayn]" : w.s.equals("fee") ? "[hb]" : "[gs]";
                    continue;
                }
                boolean ends = false;
                if (wanted && (w.s.equals("(") || w.s.equals("!"))) {
                    if (open.stream().filter(w.s::equals).count() == 8) {
                        return w.at;
                    }
                    open.push(w.s);
                    if (w.s.equals("(")) {
                        compared.push(false);
                    }
                } else if (wanted && (w.s.matches(names) || w.s.matches("[0-9]{1,4}"))) {
                    ends = true;
                } else if (!wanted && w.s.equals(")") && "(".equals(open.peek())) {
                    open.pop();
                    compared.pop();
                    ends = true;
                } else if (!wanted && w.s.matches("[-+*/]")) {
                    wanted = true;
                } else if (!wanted && w.s.matches("[&|]")) {
                    compared.pop();
                    compared.push(false);
                    wanted = true;
                } else if (!wanted && w.s.matches("[<=>]") && !compared.peek()) {
                    compared.pop();
                    compared.push(true);
                    wanted = true;
                } else {
                    return w.at;
                }
                if (ends) {
                    while ("!".equals(open.peek())) {
                        open.pop();
                    }
                    wanted = false;
                }
            }
            return wanted || !open.isEmpty() ? tape.length() : -1;
        }

        static Script of(String tape) {
            List<Word> words = split(tape);
            String s = words.get(0).s;
            return new Script(s.equals("look") ? 0 : s.equals("fee") ? 1 : 2, words.subList(1, words.size()));
        }
    }

    static final class World {
        List<Bird> birds = new ArrayList<>();
        int[] need = {2, 2, 2, 2, 2, 2};
        int eye = 20, fox = 0, held = 0, broken = 0, taken = 0, day = 0, z = 1;
        List<Script> scripts = new ArrayList<>();

        World twin() {
            World w = new World();
            for (Bird b : birds) {
                w.birds.add(b.twin());
            }
            w.need = need.clone();
            w.eye = eye;
            w.fox = fox;
            w.held = held;
            w.broken = broken;
            w.taken = taken;
            w.day = day;
            w.z = z;
            w.scripts = new ArrayList<>(scripts);
            return w;
        }

        World after(int n) {
            World w = twin();
            for (int i = 0; i < n; i++) {
                w.day();
            }
            return w;
        }

        Script script(int key) {
            for (int i = scripts.size() - 1; i >= 0; i--) {
                if (scripts.get(i).key == key) {
                    return scripts.get(i);
                }
            }
            return null;
        }

        int in(int yard) {
            int n = 0;
            for (Bird b : birds) {
                n += b.yard == yard ? 1 : 0;
            }
            return n;
        }

        int sees(Bird b, int as) {
            switch (as) {
                case 0: {
                    int v = b.sight - b.age / 2;
                    Script s = script(0);
                    if (s != null) {
                        v = s.value(Map.of("g", b.sight, "a", b.age, "y", need[b.yard], "n", in(b.yard)));
                    }
                    return Math.min(99, Math.max(0, v));
                }
                case 1: return sees(b, 0);
                case 3: return sees(b, 1) / 3;
                case 2: return day % 2 == 1 ? 99 : sees(b, 0);
                case 4: return Math.max(0, sees(b, 2) - 9 * (in(b.yard) - 1));
                default: return 1;
            }
        }

        List<Bird> witnesses(int yard) {
            List<Bird> list = new ArrayList<>();
            for (Bird b : birds) {
                if (b.yard == yard && sees(b, b.kind) >= eye) {
                    list.add(b);
                }
            }
            return list;
        }

        int tally(int yard) {
            return witnesses(yard).stream().mapToInt(b -> b.tallies(b.kind)).sum();
        }

        boolean holds(int yard) {
            return tally(yard) >= need[yard];
        }

        int bargain(int yard) {
            List<Bird> saw = witnesses(yard);
            if (!holds(yard)) {
                broken = Math.min(99999, broken + 1);
                return 0;
            }
            held = Math.min(99999, held + 1);
            for (Bird b : saw) {
                b.saw = Math.min(9999, b.saw + 1);
            }
            return 1;
        }

        int draw() {
            z = z * 1103515245 + 12345;
            return z >>> 8;
        }

        void day() {
            bargain(day % 6);
            for (Bird b : birds) {
                b.yard = (b.yard + b.wanders(b.kind)) % 6;
                if (day % 5 == 4) {
                    b.age = Math.min(99, b.age + 1);
                }
            }
            if (draw() % 100 < fox && !birds.isEmpty()) {
                Bird b = birds.get(draw() % birds.size());
                b.age = 0;
                b.saw = 0;
                taken = Math.min(99999, taken + 1);
            }
            day++;
        }

        int figure(int what) {
            int sum = 0;
            switch (what) {
                case 0: return held;
                case 1: return broken;
                case 2: return taken;
                case 3:
                    for (int y = 0; y < 6; y++) {
                        sum += holds(y) ? 1 << y : 0;
                    }
                    return sum;
                case 4: return birds.stream().mapToInt(b -> b.age).sum();
                case 5: return birds.stream().mapToInt(b -> b.saw).sum();
                default: return BAD;
            }
        }
    }

    /** A row: null is no number. */
    static final class Row {
        boolean floats;
        Integer[] at;
    }

    public static final class Model {
        World w = new World();
        World image;
        StringBuilder tape = new StringBuilder();
        Row[] sheets = new Row[4];
        Object[] slots = new Object[5];
        List<Integer> wait = new ArrayList<>();

        private boolean none(int g) {
            return g < 0 || g >= w.birds.size();
        }

        private static boolean not(int v, int a, int b) {
            return v < a || v > b;
        }

        public int goose(int kind, int sight, int age, int yard) {
            if (not(kind, 0, 5) || not(sight, 0, 99) || not(age, 0, 99) || not(yard, 0, 5)) return BAD;
            if (w.birds.size() == 10) return FULL;
            w.birds.add(new Bird(kind, sight, age, yard, 0));
            return w.birds.size() - 1;
        }

        public int told(int goose, int what) {
            if (none(goose) || not(what, 0, 8)) return BAD;
            Bird b = w.birds.get(goose);
            return new int[] {b.kind, b.sight, b.age, b.yard, b.saw, w.sees(b, b.kind), b.wanders(b.kind), b.tallies(b.kind),
                b.worth(b.kind)}[what];
        }

        public int as(int goose, int kind) {
            if (none(goose) || not(kind, 0, 5)) return BAD;
            return w.birds.get(goose).is(kind) ? w.birds.get(goose).sight : KIND;
        }

        public int turns(int goose, int kind) {
            if (none(goose) || not(kind, 0, 5)) return BAD;
            int was = told(goose, 0);
            w.birds.get(goose).kind = kind;
            return was;
        }

        public int set(int goose, int what, int v) {
            if (none(goose) || not(what, 1, 4) || not(v, 0, new int[] {0, 99, 99, 5, 9999}[what])) return BAD;
            int was = told(goose, what);
            Bird b = w.birds.get(goose);
            if (what == 1) b.sight = v;
            if (what == 2) b.age = v;
            if (what == 3) b.yard = v;
            if (what == 4) b.saw = v;
            return was;
        }

        public int needs(int yard, int v) {
            if (not(yard, 0, 5) || not(v, 0, 99)) return BAD;
            int was = w.need[yard];
            w.need[yard] = v;
            return was;
        }

        public int yardOf(int yard, int what) {
            if (not(yard, 0, 5) || not(what, 0, 4)) return BAD;
            int in = 0;
            int saw = 0;
            for (int g = 0; g < w.birds.size(); g++) {
                in += w.birds.get(g).yard == yard ? 1 << g : 0;
                saw += w.witnesses(yard).contains(w.birds.get(g)) ? 1 << g : 0;
            }
            return new int[] {w.need[yard], w.tally(yard), in, saw, w.holds(yard) ? 1 : 0}[what];
        }

        public int rule(int what, int v) {
            if (not(what, 0, 1) || not(v, 0, 99 + what)) return BAD;
            int was = what == 0 ? w.eye : w.fox;
            if (what == 0) w.eye = v; else w.fox = v;
            return was;
        }

        public int deal(int n) {
            if (not(n, 1, 10)) return BAD;
            int came = 0;
            while (came < n && w.birds.size() < 10) {
                w.birds.add(new Bird(w.draw() % 6, w.draw() % 100, w.draw() % 40, w.draw() % 6, 0));
                came++;
            }
            return came;
        }

        public int seed(int v) {
            int was = w.z;
            w.z = v;
            return was;
        }

        public int drive(int yard, int what) {
            if (not(yard, 0, 5) || not(what, 0, 1)) return BAD;
            int found = NONE;
            for (int set = 0; set < 1 << w.birds.size(); set++) {
                World v = w.twin();
                boolean fit = true;
                for (int g = 0; g < v.birds.size(); g++) {
                    if ((set & 1 << g) != 0) {
                        fit &= v.birds.get(g).yard != yard;
                        v.birds.get(g).yard = yard;
                    }
                }
                boolean fewer = found == NONE || Integer.bitCount(set) < Integer.bitCount(found);
                if (fit && fewer && v.holds(yard)) found = set;
            }
            return found == NONE || what == 0 ? found : Integer.bitCount(found);
        }

        public int strike(int yard) {
            return not(yard, 0, 5) ? BAD : w.bargain(yard);
        }

        public int days(int n) {
            if (not(n, 1, 100)) return BAD;
            int was = w.held;
            for (int i = 0; i < n && w.day < 9999; i++) w.day();
            return w.held - was;
        }

        public int county(int what) {
            if (what != 6) return w.figure(what);
            int best = NONE;
            for (int g = w.birds.size() - 1; g >= 0; g--) {
                if (best == NONE || w.birds.get(g).age >= w.birds.get(best).age) best = g;
            }
            return best;
        }

        public int behind(int n, int what) {
            if (not(n, 0, 100) || what < 0 || what >= 5 && none(what - 5)) return BAD;
            World v = w.after(n);
            return what < 5 ? v.figure(what) : v.birds.get(what - 5).saw;
        }

        public int holds(int yard) {
            if (not(yard, 0, 5)) return BAD;
            World v = w.twin();
            for (int d = 0; d <= 200; d++, v.day()) {
                if (v.holds(yard)) return d;
            }
            return NONE;
        }

        public int meets(int goose, int other) {
            if (none(goose) || none(other) || goose == other) return BAD;
            World v = w.twin();
            for (int d = 0; d <= 200; d++, v.day()) {
                if (v.birds.get(goose).yard == v.birds.get(other).yard) return d;
            }
            return NONE;
        }

        public int place(int goose, int n, int what) {
            if (none(goose) || not(n, 1, 60) || not(what, 0, 1)) return BAD;
            int[] held = new int[6];
            int best = 0;
            for (int y = 0; y < 6; y++) {
                World v = w.twin();
                v.birds.get(goose).yard = y;
                held[y] = v.after(n).held;
                if (held[y] > held[best]) best = y;
            }
            return what == 0 ? best : held[best];
        }

        public int becomes(int goose, int n, int what) {
            if (none(goose) || not(n, 1, 60) || not(what, 0, 1)) return BAD;
            int[] held = new int[6];
            int best = 0;
            for (int k = 0; k < 6; k++) {
                World v = w.twin();
                v.birds.get(goose).kind = k;
                held[k] = v.after(n).held;
                if (held[k] > held[best]) best = k;
            }
            return what == 0 ? best : held[best];
        }

        public int eyes(int n, int v) {
            if (not(n, 0, 60) || not(v, 0, 99999)) return BAD;
            if (w.held + n < v) return NONE;
            for (int eye = 99; eye >= 0; eye--) {
                World t = w.twin();
                t.eye = eye;
                if (t.after(n).held >= v) return eye;
            }
            return NONE;
        }

        public int like(int sheet, int what) {
            if (not(sheet, 0, 3) || not(what, 0, 1)) return BAD;
            if (sheets[sheet] == null) return NOTHING;
            int best = NONE;
            int least = 0;
            for (int g = 0; g < w.birds.size(); g++) {
                int sum = 0;
                World v = w.twin();
                for (Integer told : sheets[sheet].at) {
                    sum += told == null ? 0 : Math.abs(v.birds.get(g).saw - told);
                    v.day();
                }
                if (best == NONE || sum < least) {
                    best = g;
                    least = sum;
                }
            }
            return best == NONE || what == 0 ? best : least;
        }

        public int fee() {
            Script s = w.script(1);
            return s == null ? w.held : s.value(Map.of("h", w.held, "b", w.broken));
        }

        public int fine(int goose) {
            if (none(goose)) return BAD;
            Bird b = w.birds.get(goose);
            Script s = w.script(2);
            return s == null ? b.sight : s.value(Map.of("g", b.sight, "s", b.saw));
        }

        public int feed(int a, int b, int c) {
            if (tape.length() > 84) return FULL;
            for (int v : new int[] {a, b, c}) {
                for (int i = 3; i >= 0; i--) tape.append((char) (v >> 8 * i & 255));
            }
            return tape.length();
        }

        public int trim(int n) {
            if (not(n, 0, tape.length())) return BAD;
            tape.setLength(n);
            return n;
        }

        public int text() {
            String s = tape.toString();
            tape.setLength(0);
            int fault = Script.fault(s);
            if (fault >= 0) return -100 - fault;
            if (w.scripts.size() == 14) return FULL;
            w.scripts.add(Script.of(s));
            return w.scripts.size() - 1;
        }

        public int textTold(int text, int what) {
            if (not(text, 0, w.scripts.size() - 1) || not(what, 0, 1)) return BAD;
            return what == 0 ? w.scripts.get(text).key : w.scripts.get(text).operands();
        }

        public int why(int key) {
            return not(key, 0, 2) ? BAD : w.script(key) == null ? NONE : w.scripts.lastIndexOf(w.script(key));
        }

        public int sheet(int sheet, int sort, int n) {
            if (not(sheet, 0, 3) || not(sort, -1, 1) || sort >= 0 && n > 24) return BAD;
            if (sort >= 0 && n < 0) return SIZE;
            sheets[sheet] = null;
            if (sort < 0) return 0;
            sheets[sheet] = new Row();
            sheets[sheet].floats = sort == 1;
            sheets[sheet].at = new Integer[n];
            java.util.Arrays.fill(sheets[sheet].at, 0);
            return n;
        }

        public int mark(int sheet, int place, int v) {
            if (not(sheet, 0, 3)) return BAD;
            Row r = sheets[sheet];
            if (r == null) return NOTHING;
            if (not(place, 0, r.at.length - 1)) return INDEX;
            if (!r.floats && v == NONE) return KIND;
            if (r.floats && v != NONE && not(v, -99999, 99999)) return BAD;
            r.at[place] = v == NONE ? null : r.floats ? v : (Integer) (v << 16 >> 16);
            return 1;
        }

        public int pour(int sheet) {
            if (not(sheet, 0, 3)) return BAD;
            if (sheets[sheet] == null) return NOTHING;
            int n = 0;
            for (int g = 0; g < w.birds.size(); g++) {
                Integer v = g < sheets[sheet].at.length ? sheets[sheet].at[g] : null;
                if (v != null) {
                    int s = Math.max(0, Math.min(99, v));
                    n += w.birds.get(g).sight != s ? 1 : 0;
                    w.birds.get(g).sight = s;
                }
            }
            return n;
        }

        public int reads(int sheet) {
            if (not(sheet, 0, 3)) return BAD;
            if (sheets[sheet] == null) return NOTHING;
            Integer[] at = sheets[sheet].at;
            for (int k = 0; k < at.length; k++) {
                if (at[k] != null && (none(k) || w.birds.get(k).yard != at[k])) return k;
            }
            return NONE;
        }

        public int copy(int from, int place, int to, int at, int many) {
            if (not(from, 0, 3) || not(to, 0, 3)) return BAD;
            Row a = sheets[from];
            Row b = sheets[to];
            if (a == null || b == null) return NOTHING;
            if (a.floats != b.floats) return KIND;
            if (many < 0 || place < 0 || at < 0 || (long) place + many > a.at.length || (long) at + many > b.at.length) {
                return INDEX;
            }
            Integer[] were = a.at.clone();
            for (int i = 0; i < many; i++) b.at[at + i] = were[place + i];
            return many;
        }

        private int thing(int slot) {
            Object o = slots[slot];
            return o == null ? 0 : o instanceof Bird ? 1 : o instanceof Integer[] ? 2 : 3;
        }

        public int lay(int slot, int thing, int k) {
            if (not(slot, 0, 4) || not(thing, 0, 3) || thing == 1 && none(k) || thing == 2 && not(k, 0, 3)) return BAD;
            if (thing == 2 && sheets[k] == null) return NOTHING;
            int was = thing(slot);
            slots[slot] = thing == 0 ? null : thing == 1 ? w.birds.get(k).twin() : thing == 2 ? sheets[k].at.clone() : (Object) k;
            return was;
        }

        public int ask(int slot, int kind) {
            if (not(slot, 0, 4) || not(kind, 0, 5)) return BAD;
            if (thing(slot) == 0) return NOTHING;
            return slots[slot] instanceof Bird b && b.is(kind) ? b.worth(b.kind) : KIND;
        }

        public int item(int slot, int place) {
            if (not(slot, 0, 4)) return BAD;
            if (thing(slot) == 0) return NOTHING;
            if (!(slots[slot] instanceof Integer[] row)) return KIND;
            if (not(place, 0, row.length - 1)) return INDEX;
            return row[place] == null ? KIND : row[place];
        }

        public int rest(int slot, int n) {
            if (not(slot, 0, 4)) return BAD;
            if (thing(slot) == 0) return NOTHING;
            if (thing(slot) != 3) return KIND;
            return n == 0 ? NO : (int) ((long) (Integer) slots[slot] % n);
        }

        public int tell(int v) {
            if (wait.size() == 60) return FULL;
            wait.add(v);
            return wait.size();
        }

        public int check(int n) {
            List<Integer> told = wait;
            wait = new ArrayList<>();
            if (not(n, 1, 30)) return BAD;
            if (image == null) return NO;
            List<Integer> rows = new ArrayList<>();
            for (int d = 1; d <= n && image.day + d <= 9999; d++) {
                rows.add(image.after(d).held);
                rows.add(image.after(d).figure(5));
            }
            if (rows.equals(told)) return 0;
            int at = 0;
            while (at < rows.size() && at < told.size() && rows.get(at).equals(told.get(at))) at++;
            return 1 + at;
        }

        public int keep() {
            image = w.twin();
            return w.birds.size();
        }

        public int back() {
            if (image == null) return NO;
            w = image.twin();
            return w.birds.size();
        }

        public int count(int what) {
            if (not(what, 0, 7)) return BAD;
            return new int[] {w.birds.size(), w.day, w.eye, w.fox, w.scripts.size(), wait.size(), tape.length(), w.z}[what];
        }
    }

    /** What the numbers of a call may be: a letter each. */
    private static final Map<String, String> FORMS = new HashMap<>();

    static {
        String all = "goose:kssy told:g9 as:gk turns:gk set:g5v needs:yn yardOf:y5 rule:2s deal:6 seed:i drive:y2 strike:y "
            + "days:d county:7 behind:df holds:y meets:gg place:gm2 becomes:gm2 eyes:mh like:42 fine:g feed:iii trim:t "
            + "textTold:t2 why:3 sheet:4ap mark:4pw pour:4 reads:4 copy:4p4pp lay:54l ask:5k item:5p rest:5w tell:h check:c "
            + "count:8 fee: text: keep: back:";
        for (String form : all.split(" ")) {
            FORMS.put(form.split(":")[0], form.endsWith(":") ? "" : form.split(":")[1]);
        }
    }

    private static int number(Random r, char form) {
        if (r.nextInt(60) == 0) {
            int[] odd = {Integer.MIN_VALUE, Integer.MAX_VALUE, -1, NONE, BAD, 100000, -100000, 0};
            return odd[r.nextInt(odd.length)];
        }
        switch (form) {
            case 'k':
            case 'y': return r.nextInt(40) == 0 ? 6 : r.nextInt(6);
            case 's': return r.nextInt(50) == 0 ? 100 : r.nextInt(100);
            case 'n': return r.nextInt(3) == 0 ? r.nextInt(12) : r.nextInt(5);
            case 'g': return r.nextInt(30) == 0 ? r.nextInt(12) : r.nextInt(4);
            case 'v': return r.nextInt(3) == 0 ? r.nextInt(11000) : r.nextInt(6);
            case 'd': return r.nextInt(3) == 0 ? r.nextInt(103) : r.nextInt(9);
            case 'm': return r.nextInt(3) == 0 ? r.nextInt(62) : r.nextInt(14);
            case 'h': return r.nextInt(30);
            case 'f': return r.nextInt(17);
            case 'a': return r.nextInt(9) == 0 ? -1 : r.nextInt(2);
            case 'p': return r.nextInt(9) == 0 ? r.nextInt(27) - 1 : r.nextInt(5);
            case 'w': return r.nextInt(4) == 0 ? (r.nextInt(3) == 0 ? NONE : r.nextInt(300000) - 150000) : r.nextInt(9) - 1;
            case 'l': return r.nextInt(6);
            case 't': return r.nextInt(20);
            case 'c': return r.nextInt(31);
            case 'i': return r.nextInt();
            default: return r.nextInt(12) == 0 ? form - '0' : r.nextInt(form - '0');
        }
    }

    private static String expression(Random r, String names, int depth) {
        String gap = r.nextInt(4) == 0 ? " " : "";
        if (depth == 0 || r.nextInt(5) == 0) {
            return r.nextBoolean() ? gap + names.charAt(r.nextInt(names.length())) : gap + r.nextInt(r.nextBoolean() ? 9 : 10000);
        }
        switch (r.nextInt(6)) {
            case 0: return gap + "(" + expression(r, names, depth - 1) + gap + ")";
            case 1: return gap + "!" + expression(r, names, depth - 1);
            default: return expression(r, names, depth - 1) + gap + "+-*/<=>&|+-*/".charAt(r.nextInt(13))
                + expression(r, names, depth - 1);
        }
    }

    private static String script(Random r) {
        int key = r.nextInt(3);
        String s = new String[] {"look ", "fee ", "fine "}[key]
            + expression(r, new String[] {"gayn", "hb", "gs"}[key], r.nextInt(5));
        if (r.nextInt(12) == 0) {
            s = s.substring(0, s.length() - 1) + "(!".repeat(r.nextInt(10)) + "!(".repeat(r.nextInt(2)) + "h" + ")".repeat(9);
        }
        if (r.nextInt(9) == 0) {
            int i = r.nextInt(s.length());
            s = s.substring(0, i) + " ()!+<&ghz09\u00e9L".charAt(r.nextInt(14)) + s.substring(i + r.nextInt(2));
        }
        return s.length() > 96 ? s.substring(0, 96) : s;
    }

    private final Random random;
    private final int run;
    private final GooseCounty real = new GooseCounty();
    private final Model model = new Model();
    private final StringBuilder calls = new StringBuilder();
    private int made = 0;

    private ModelTest(int run) {
        this.run = run;
        random = new Random(run);
    }

    private static final Map<String, Method> REAL = new HashMap<>();
    private static final Map<String, Method> MODEL = new HashMap<>();
    private static int wrong = 0;

    private int call(String name, Integer... numbers) throws ReflectiveOperationException {
        Object[] args = numbers;
        int want = (int) MODEL.get(name).invoke(model, args);
        int got = (int) REAL.get(name).invoke(real, args);
        made++;
        calls.append(name).append(List.of(numbers)).append(" ");
        if (got != want && wrong++ < 5) {
            System.out.println("run " + run + ", call " + made + ": answered " + got + ", due is " + want + ": "
                + calls.substring(Math.max(0, calls.length() - 1500)));
        }
        return want;
    }

    private void type(String s) throws ReflectiveOperationException {
        call("trim", 0);
        for (int i = 0; i < s.length(); i += 12) {
            int[] v = new int[3];
            for (int b = 0; b < 12; b++) {
                v[b / 4] = v[b / 4] << 8 | (i + b < s.length() ? s.charAt(i + b) : 32);
            }
            call("feed", v[0], v[1], v[2]);
        }
        call("trim", s.length());
        call("text");
    }

    /** Tells the days of the image, at times with one of them wrong. */
    private void tellRows() throws ReflectiveOperationException {
        call("check", 1);
        int n = 1 + random.nextInt(6);
        int spoilt = random.nextInt(3) == 0 ? random.nextInt(2 * n) : -1;
        if (model.image != null) {
            for (int i = 0; i < 2 * n; i++) {
                World w = model.image.after(i / 2 + 1);
                call("tell", (i % 2 == 0 ? w.held : w.figure(5)) + (i == spoilt ? 1 : 0));
            }
        }
        call("check", random.nextInt(4) == 0 ? n + 1 : n);
    }

    private void go(List<String> names) throws ReflectiveOperationException {
        int texts = random.nextInt(3);
        boolean far = random.nextInt(8) == 0;
        call("deal", 1 + random.nextInt(10));
        call("rule", 0, random.nextInt(60));
        if (far) {
            for (int i = 0; i < 100; i++) {
                call("days", 100);
            }
        }
        while (made < CALLS) {
            int lot = random.nextInt(60);
            boolean room = made + AT_ONCE <= CALLS;
            if (lot < texts && room) {
                type(script(random));
            } else if (lot == 59 && room) {
                tellRows();
            } else {
                String name = names.get(random.nextInt(names.size()));
                String form = FORMS.get(name);
                if ((name.equals("back") || name.equals("days")) && random.nextInt(3) > 0) {
                    continue;
                }
                Integer[] args = new Integer[form.length()];
                for (int i = 0; i < args.length; i++) {
                    args[i] = number(random, form.charAt(i));
                }
                call(name, args);
            }
        }
        if (made > CALLS) {
            wrong++;
            System.out.println("run " + run + " made " + made + " calls");
        }
    }

    public static void main(String[] args) throws ReflectiveOperationException {
        List<String> names = new ArrayList<>(FORMS.keySet());
        names.sort(null);
        for (Method m : GooseCounty.class.getMethods()) {
            if (m.getDeclaringClass() == GooseCounty.class) {
                REAL.put(m.getName(), m);
            }
        }
        for (Method m : Model.class.getMethods()) {
            MODEL.put(m.getName(), m);
        }
        int runs = args.length > 0 ? Integer.parseInt(args[0]) : RUNS;
        int from = args.length > 1 ? Integer.parseInt(args[1]) : 0;
        int wrongRuns = 0;
        for (int run = from; run < from + runs; run++) {
            int before = wrong;
            new ModelTest(run).go(names);
            wrongRuns += wrong > before ? 1 : 0;
        }
        System.out.println(runs + " runs by lot, " + wrongRuns + " with answers that are not as due");
        if (wrong > 0) {
            System.exit(1);
        }
    }
}
