import java.util.Arrays;

/** A county in which a bargain holds only if a goose looked on. */
public final class GooseCounty {
    public static final int BAD = -1000000001, NO = -1000000002, FULL = -1000000003, NONE = -1000000005,
            NOTHING = -1000000011, KIND = -1000000012, INDEX = -1000000013, SIZE = -1000000014;

    private static final int MOST_GEESE = 10, YARDS = 6, TOP = 99, MOST_SAW = 9999, MOST_TOLD = 99999, LAST_DAY = 9999;
    private static final int GANDER = 1, SLEEPER = 2, MYOPIC = 3, ABROAD = 4, EGG = 5, KINDS = 6;
    private static final int TRAIT_KIND = 0, TRAIT_SIGHT = 1, TRAIT_AGE = 2, TRAIT_YARD = 3, TRAIT_SAW = 4;
    private static final int LOOK = 0, FEE = 1, FINE = 2, KEYS = 3;
    private static final int MOST_TEXTS = 14, TAPE_ROOM = 96, DEEPEST = 8;
    private static final int SHEETS = 4, SLOTS = 5, MOST_PLACES = 24, MOST_WAITING = 60;
    private static final int MISSING = -1, SHORTS = 0, FLOATS = 1;
    private static final int HOLDS_NOTHING = 0, HOLDS_GOOSE = 1, HOLDS_SHEET = 2, HOLDS_NUMBER = 3;
    private static final int FAR = 200, LONG = 100, MIDDLE = 60, SHORT = 30;

    /** By kind: the kind that it is right under, what it tallies, how far it wanders a day. */
    private static final int[] UNDER = {-1, 0, 0, 1, 2, 0};
    private static final int[] TALLIES = {2, 1, 3, -2, 3, 4};
    private static final int[] WANDERS = {0, 1, 0, 2, 3, 0};
    /** By trait: the most that it can be. */
    private static final int[] MOST_OF_TRAIT = {KINDS - 1, TOP, TOP, YARDS - 1, MOST_SAW};

    private final County now = new County();
    private final County image = new County();
    /** What is only thought happens here, so that nothing changes. */
    private final County thought = new County();
    private final Reader reader = new Reader();
    private final Sheet[] sheets = new Sheet[SHEETS];
    private final Slot[] slots = new Slot[SLOTS];
    private final int[] waiting = new int[MOST_WAITING];
    private final int[] heldWith = new int[TOP + 1];
    private final int[] differences = new int[MOST_GEESE];
    private int waits = 0;
    private boolean kept = false;

    public GooseCounty() {
        for (int i = 0; i < SHEETS; i++) {
            sheets[i] = new Sheet();
        }
        for (int i = 0; i < SLOTS; i++) {
            slots[i] = new Slot();
        }
    }

    private static boolean outside(int v, int least, int most) {
        return v < least || v > most;
    }

    private static int within(int v, int least, int most) {
        return v < least ? least : v > most ? most : v;
    }

    // ---- geese, yards

    public int goose(int kind, int sight, int age, int yard) {
        if (outside(kind, 0, KINDS - 1) || outside(sight, 0, TOP) || outside(age, 0, TOP) || outside(yard, 0, YARDS - 1)) {
            return BAD;
        }
        return now.addGoose(kind, sight, age, yard) ? now.many - 1 : FULL;
    }

    public int told(int goose, int what) {
        if (!now.hasGoose(goose)) {
            return BAD;
        }
        Goose one = now.geese[goose];
        switch (what) {
            case TRAIT_KIND:
            case TRAIT_SIGHT:
            case TRAIT_AGE:
            case TRAIT_YARD:
            case TRAIT_SAW:
                return one.trait(what);
            case 5:
                return now.sees(one, one.yard, now.crowd(one.yard));
            case 6:
                return one.wanders();
            case 7:
                return one.tallies();
            case 8:
                return one.worth();
            default:
                return BAD;
        }
    }

    public int as(int goose, int kind) {
        if (!now.hasGoose(goose) || outside(kind, 0, KINDS - 1)) {
            return BAD;
        }
        return now.geese[goose].isOf(kind) ? now.geese[goose].sight : KIND;
    }

    public int turns(int goose, int kind) {
        return changeTrait(goose, TRAIT_KIND, kind);
    }

    public int set(int goose, int what, int v) {
        return outside(what, TRAIT_SIGHT, TRAIT_SAW) ? BAD : changeTrait(goose, what, v);
    }

    private int changeTrait(int goose, int trait, int v) {
        if (!now.hasGoose(goose) || outside(v, 0, MOST_OF_TRAIT[trait])) {
            return BAD;
        }
        int was = now.geese[goose].trait(trait);
        now.geese[goose].change(trait, v);
        return was;
    }

    public int needs(int yard, int v) {
        if (outside(yard, 0, YARDS - 1) || outside(v, 0, TOP)) {
            return BAD;
        }
        int was = now.need[yard];
        now.need[yard] = v;
        return was;
    }

    public int yardOf(int yard, int what) {
        if (outside(yard, 0, YARDS - 1)) {
            return BAD;
        }
        switch (what) {
            case 0:
                return now.need[yard];
            case 1:
                return now.tallyOf(now.witnesses(yard));
            case 2:
                return now.geeseIn(yard);
            case 3:
                return now.witnesses(yard);
            case 4:
                return now.wouldHold(yard) ? 1 : 0;
            default:
                return BAD;
        }
    }

    public int rule(int what, int v) {
        int was;
        if (what == 0 && !outside(v, 0, TOP)) {
            was = now.eye;
            now.eye = v;
        } else if (what == 1 && !outside(v, 0, 100)) {
            was = now.fox;
            now.fox = v;
        } else {
            was = BAD;
        }
        return was;
    }

    public int deal(int n) {
        if (outside(n, 1, MOST_GEESE)) {
            return BAD;
        }
        int coming = Math.min(n, MOST_GEESE - now.many);
        for (int i = 0; i < coming; i++) {
            now.drawGoose();
        }
        return coming;
    }

    public int seed(int v) {
        int was = now.z;
        now.z = v;
        return was;
    }

    public int drive(int yard, int what) {
        if (outside(yard, 0, YARDS - 1) || outside(what, 0, 1)) {
            return BAD;
        }
        int set = now.fewestDriven(yard);
        return set == NONE || what == 0 ? set : Integer.bitCount(set);
    }

    // ---- days

    public int strike(int yard) {
        return outside(yard, 0, YARDS - 1) ? BAD : now.bargain(yard);
    }

    public int days(int n) {
        if (outside(n, 1, LONG)) {
            return BAD;
        }
        int was = now.held;
        now.pass(Math.min(n, LAST_DAY - now.day));
        return now.held - was;
    }

    public int county(int what) {
        switch (what) {
            case 5:
                return now.sawTogether();
            case 6:
                return now.eldest();
            default:
                return figure(now, what);
        }
    }

    /** What county and behind tell alike. */
    private static int figure(County of, int what) {
        switch (what) {
            case 0:
                return of.held;
            case 1:
                return of.broken;
            case 2:
                return of.taken;
            case 3:
                return of.yardsThatHold();
            case 4:
                return of.ageTogether();
            default:
                return BAD;
        }
    }

    // ---- what will be

    public int behind(int n, int what) {
        if (outside(n, 0, LONG) || outside(what, 0, 4 + now.many)) {
            return BAD;
        }
        thought.become(now);
        thought.pass(n);
        int goose = what - 5;
        return thought.hasGoose(goose) ? thought.geese[goose].saw : figure(thought, what);
    }

    public int holds(int yard) {
        if (outside(yard, 0, YARDS - 1)) {
            return BAD;
        }
        thought.become(now);
        for (int d = 0; d <= FAR; d++) {
            if (thought.wouldHold(yard)) {
                return d;
            }
            thought.pass(1);
        }
        return NONE;
    }

    public int meets(int goose, int other) {
        if (!now.hasGoose(goose) || !now.hasGoose(other) || goose == other) {
            return BAD;
        }
        thought.become(now);
        for (int d = 0; d <= FAR; d++) {
            if (thought.geese[goose].yard == thought.geese[other].yard) {
                return d;
            }
            thought.wander();
        }
        return NONE;
    }

    public int place(int goose, int n, int what) {
        return best(goose, TRAIT_YARD, n, what);
    }

    public int becomes(int goose, int n, int what) {
        return best(goose, TRAIT_KIND, n, what);
    }

    /** Of all that one's yard (or kind) can be: what lets most be held behind n days, or how much that is. */
    private int best(int goose, int trait, int n, int what) {
        if (!now.hasGoose(goose) || outside(n, 1, MIDDLE) || outside(what, 0, 1)) {
            return BAD;
        }
        int found = 0;
        int most = -1;
        for (int v = 0; v <= MOST_OF_TRAIT[trait]; v++) {
            thought.become(now);
            thought.geese[goose].change(trait, v);
            thought.pass(n);
            if (thought.held > most) {
                most = thought.held;
                found = v;
            }
        }
        return what == 0 ? found : most;
    }

    public int eyes(int n, int v) {
        if (outside(n, 0, MIDDLE) || outside(v, 0, MOST_TOLD)) {
            return BAD;
        }
        // Nothing that one sees, wanders or draws asks for the eye: one run of days serves for all eyes.
        Arrays.fill(heldWith, now.held);
        thought.become(now);
        for (int d = 0; d < n; d++) {
            thought.bargainWithEachEye(heldWith);
            thought.pass(1);
        }
        for (int eye = TOP; eye >= 0; eye--) {
            if (heldWith[eye] >= v) {
                return eye;
            }
        }
        return NONE;
    }

    public int like(int sheet, int what) {
        if (outside(sheet, 0, SHEETS - 1) || outside(what, 0, 1)) {
            return BAD;
        }
        if (sheets[sheet].isMissing()) {
            return NOTHING;
        }
        if (now.many == 0) {
            return NONE;
        }
        addDifferences(sheets[sheet]);
        int found = 0;
        for (int g = 1; g < now.many; g++) {
            if (differences[g] < differences[found]) {
                found = g;
            }
        }
        return what == 0 ? found : differences[found];
    }

    private void addDifferences(Sheet told) {
        Arrays.fill(differences, 0);
        thought.become(now);
        for (int k = 0; k < told.places; k++) {
            if (told.isNumber(k)) {
                for (int g = 0; g < now.many; g++) {
                    differences[g] += Math.abs(thought.geese[g].saw - told.row[k]);
                }
            }
            thought.pass(1);
        }
    }

    public int fee() {
        Law law = now.lawFor(FEE);
        return law == null ? now.held : law.gives(now.held, now.broken, 0, 0);
    }

    public int fine(int goose) {
        if (!now.hasGoose(goose)) {
            return BAD;
        }
        Goose one = now.geese[goose];
        Law law = now.lawFor(FINE);
        return law == null ? one.sight : law.gives(one.sight, one.saw, 0, 0);
    }

    // ---- texts

    public int feed(int a, int b, int c) {
        if (reader.length + 12 > TAPE_ROOM) {
            return FULL;
        }
        reader.addBytes(a);
        reader.addBytes(b);
        reader.addBytes(c);
        return reader.length;
    }

    public int trim(int n) {
        if (outside(n, 0, reader.length)) {
            return BAD;
        }
        reader.length = n;
        return n;
    }

    public int text() {
        boolean good = reader.understands();
        reader.length = 0;
        if (!good) {
            return -100 - reader.start;
        }
        if (now.texts >= MOST_TEXTS) {
            return FULL;
        }
        now.addLaw(reader.written());
        return now.texts - 1;
    }

    public int textTold(int text, int what) {
        if (outside(text, 0, now.texts - 1) || outside(what, 0, 1)) {
            return BAD;
        }
        Law law = now.laws[text];
        if (law == null) {
            return BAD;
        }
        return what == 0 ? law.key : law.operands;
    }

    public int why(int key) {
        return outside(key, 0, KEYS - 1) ? BAD : now.counting[key];
    }

    // ---- sheets, slots

    public int sheet(int sheet, int sort, int n) {
        if (outside(sheet, 0, SHEETS - 1) || outside(sort, MISSING, FLOATS)) {
            return BAD;
        }
        if (sort == MISSING) {
            sheets[sheet].begin(MISSING, 0);
            return 0;
        }
        if (n > MOST_PLACES) {
            return BAD;
        }
        if (n < 0) {
            return SIZE;
        }
        sheets[sheet].begin(sort, n);
        return n;
    }

    public int mark(int sheet, int place, int v) {
        if (outside(sheet, 0, SHEETS - 1)) {
            return BAD;
        }
        Sheet on = sheets[sheet];
        if (on.isMissing()) {
            return NOTHING;
        }
        if (outside(place, 0, on.places - 1)) {
            return INDEX;
        }
        if (on.sort == SHORTS) {
            if (v == NONE) {
                return KIND;
            }
            on.row[place] = (short) v;
            return 1;
        }
        if (v != NONE && outside(v, -MOST_TOLD, MOST_TOLD)) {
            return BAD;
        }
        on.row[place] = v;
        return 1;
    }

    public int pour(int sheet) {
        if (outside(sheet, 0, SHEETS - 1)) {
            return BAD;
        }
        Sheet from = sheets[sheet];
        if (from.isMissing()) {
            return NOTHING;
        }
        int otherwise = 0;
        for (int g = 0; g < now.many && g < from.places; g++) {
            int was = now.geese[g].sight;
            int sight = from.isNumber(g) ? within(from.row[g], 0, TOP) : was;
            now.geese[g].sight = sight;
            otherwise += sight == was ? 0 : 1;
        }
        return otherwise;
    }

    public int reads(int sheet) {
        if (outside(sheet, 0, SHEETS - 1)) {
            return BAD;
        }
        Sheet told = sheets[sheet];
        if (told.isMissing()) {
            return NOTHING;
        }
        for (int k = 0; k < told.places; k++) {
            boolean right = k < now.many && told.row[k] == now.geese[k].yard;
            if (told.isNumber(k) && !right) {
                return k;
            }
        }
        return NONE;
    }

    public int copy(int from, int place, int to, int at, int many) {
        if (outside(from, 0, SHEETS - 1) || outside(to, 0, SHEETS - 1)) {
            return BAD;
        }
        Sheet source = sheets[from];
        Sheet target = sheets[to];
        if (source.isMissing() || target.isMissing()) {
            return NOTHING;
        }
        if (source.sort != target.sort) {
            return KIND;
        }
        if (many < 0 || !source.hasPlaces(place, many) || !target.hasPlaces(at, many)) {
            return INDEX;
        }
        System.arraycopy(source.row, place, target.row, at, many);
        return many;
    }

    public int lay(int slot, int thing, int k) {
        if (outside(slot, 0, SLOTS - 1) || outside(thing, HOLDS_NOTHING, HOLDS_NUMBER)) {
            return BAD;
        }
        Slot in = slots[slot];
        if (thing == HOLDS_GOOSE) {
            if (!now.hasGoose(k)) {
                return BAD;
            }
            in.goose.become(now.geese[k]);
        } else if (thing == HOLDS_SHEET) {
            if (outside(k, 0, SHEETS - 1)) {
                return BAD;
            }
            if (sheets[k].isMissing()) {
                return NOTHING;
            }
            in.sheet.become(sheets[k]);
        }
        in.number = k;
        int was = in.thing;
        in.thing = thing;
        return was;
    }

    public int ask(int slot, int kind) {
        if (outside(slot, 0, SLOTS - 1) || outside(kind, 0, KINDS - 1)) {
            return BAD;
        }
        Slot in = slots[slot];
        if (in.thing == HOLDS_NOTHING) {
            return NOTHING;
        }
        return in.thing == HOLDS_GOOSE && in.goose.isOf(kind) ? in.goose.worth() : KIND;
    }

    public int item(int slot, int place) {
        if (outside(slot, 0, SLOTS - 1)) {
            return BAD;
        }
        Slot in = slots[slot];
        if (in.thing == HOLDS_NOTHING) {
            return NOTHING;
        }
        if (in.thing != HOLDS_SHEET) {
            return KIND;
        }
        if (outside(place, 0, in.sheet.places - 1)) {
            return INDEX;
        }
        return in.sheet.isNumber(place) ? in.sheet.row[place] : KIND;
    }

    public int rest(int slot, int n) {
        if (outside(slot, 0, SLOTS - 1)) {
            return BAD;
        }
        Slot in = slots[slot];
        if (in.thing == HOLDS_NOTHING) {
            return NOTHING;
        }
        if (in.thing != HOLDS_NUMBER) {
            return KIND;
        }
        return n == 0 ? NO : in.number % n;
    }

    // ---- rows, images

    public int tell(int v) {
        if (waits >= MOST_WAITING) {
            return FULL;
        }
        waiting[waits] = v;
        waits++;
        return waits;
    }

    public int check(int n) {
        int told = waits;
        waits = 0;
        if (outside(n, 1, SHORT)) {
            return BAD;
        }
        if (!kept) {
            return NO;
        }
        thought.become(image);
        int length = 2 * Math.min(n, LAST_DAY - image.day);
        for (int at = 0; at < length; at++) {
            boolean first = at % 2 == 0;
            if (first) {
                thought.pass(1);
            }
            int due = first ? thought.held : thought.sawTogether();
            if (at >= told || waiting[at] != due) {
                return 1 + at;
            }
        }
        return told > length ? 1 + length : 0;
    }

    public int keep() {
        image.become(now);
        kept = true;
        return image.many;
    }

    public int back() {
        if (!kept) {
            return NO;
        }
        now.become(image);
        return now.many;
    }

    public int count(int what) {
        switch (what) {
            case 0:
                return now.many;
            case 1:
                return now.day;
            case 2:
                return now.eye;
            case 3:
                return now.fox;
            case 4:
                return now.texts;
            case 5:
                return waits;
            case 6:
                return reader.length;
            case 7:
                return now.z;
            default:
                return BAD;
        }
    }

    /** One goose, of whatever kind: a kind can turn, so it is a number and not a class. */
    private static final class Goose {
        int kind, sight, age, yard, saw;

        void become(Goose other) {
            kind = other.kind;
            sight = other.sight;
            age = other.age;
            yard = other.yard;
            saw = other.saw;
        }

        int trait(int which) {
            switch (which) {
                case TRAIT_KIND:
                    return kind;
                case TRAIT_SIGHT:
                    return sight;
                case TRAIT_AGE:
                    return age;
                case TRAIT_YARD:
                    return yard;
                default:
                    return saw;
            }
        }

        void change(int which, int v) {
            switch (which) {
                case TRAIT_KIND:
                    kind = v;
                    break;
                case TRAIT_SIGHT:
                    sight = v;
                    break;
                case TRAIT_AGE:
                    age = v;
                    break;
                case TRAIT_YARD:
                    yard = v;
                    break;
                default:
                    saw = v;
                    break;
            }
        }

        boolean isOf(int wanted) {
            int at = kind;
            for (int step = 0; step < KINDS && at >= 0; step++) {
                if (at == wanted) {
                    return true;
                }
                at = UNDER[at];
            }
            return false;
        }

        int tallies() {
            return TALLIES[kind];
        }

        int wanders() {
            return WANDERS[kind];
        }

        int worth() {
            switch (kind) {
                case GANDER:
                    return sight + saw;
                case MYOPIC:
                    return (sight + saw) / 2;
                case SLEEPER:
                    return TOP - age;
                case ABROAD:
                    return TOP - age + 5;
                case EGG:
                    return saw;
                default:
                    return sight;
            }
        }
    }

    /** All that an image keeps. */
    private static final class County {
        final Goose[] geese = new Goose[MOST_GEESE];
        final int[] need = new int[YARDS];
        final Law[] laws = new Law[MOST_TEXTS];
        /** By key: the number of the text that counts, or NONE. */
        final int[] counting = new int[KEYS];
        private final int[] tallyAt = new int[TOP + 1];
        int many = 0, texts = 0, eye = 20, fox = 0, held = 0, broken = 0, taken = 0, day = 0, z = 1;

        County() {
            for (int g = 0; g < MOST_GEESE; g++) {
                geese[g] = new Goose();
            }
            Arrays.fill(need, 2);
            Arrays.fill(counting, NONE);
        }

        void become(County other) {
            for (int g = 0; g < other.many; g++) {
                geese[g].become(other.geese[g]);
            }
            System.arraycopy(other.need, 0, need, 0, YARDS);
            for (int text = 0; text < other.texts; text++) {
                laws[text] = other.laws[text];
            }
            System.arraycopy(other.counting, 0, counting, 0, KEYS);
            many = other.many;
            texts = other.texts;
            eye = other.eye;
            fox = other.fox;
            held = other.held;
            broken = other.broken;
            taken = other.taken;
            day = other.day;
            z = other.z;
        }

        boolean hasGoose(int goose) {
            return goose >= 0 && goose < many;
        }

        boolean addGoose(int kind, int sight, int age, int yard) {
            if (many >= MOST_GEESE) {
                return false;
            }
            Goose one = geese[many];
            one.kind = kind;
            one.sight = sight;
            one.age = age;
            one.yard = yard;
            one.saw = 0;
            many++;
            return true;
        }

        int draw() {
            z = z * 1103515245 + 12345;
            return z >>> 8;
        }

        void drawGoose() {
            int kind = draw() % KINDS;
            int sight = draw() % 100;
            int age = draw() % 40;
            int yard = draw() % YARDS;
            addGoose(kind, sight, age, yard);
        }

        void addLaw(Law law) {
            if (texts < MOST_TEXTS) {
                laws[texts] = law;
                counting[law.key] = texts;
                texts++;
            }
        }

        /** The law that counts for a key, or null. */
        Law lawFor(int key) {
            int number = counting[key];
            return number >= 0 && number < texts ? laws[number] : null;
        }

        int geeseIn(int yard) {
            int set = 0;
            for (int g = 0; g < many; g++) {
                if (geese[g].yard == yard) {
                    set |= 1 << g;
                }
            }
            return set;
        }

        int crowd(int yard) {
            return Integer.bitCount(geeseIn(yard));
        }

        /** What one sees, were it in a yard with so many geese in it, itself among them. */
        int sees(Goose one, int yard, int crowd) {
            if (one.kind == EGG) {
                return 1;
            }
            int look = TOP;
            if (!one.isOf(SLEEPER) || day % 2 == 0) {
                Law law = lawFor(LOOK);
                int plain = law == null ? one.sight - one.age / 2 : law.gives(one.sight, one.age, need[yard], crowd);
                look = within(plain, 0, TOP);
            }
            if (one.kind == MYOPIC) {
                return look / 3;
            }
            return one.kind == ABROAD ? Math.max(0, look - 9 * (crowd - 1)) : look;
        }

        int witnesses(int yard) {
            int there = geeseIn(yard);
            int crowd = Integer.bitCount(there);
            int set = 0;
            for (int g = 0; g < many; g++) {
                if ((there >> g & 1) == 1 && sees(geese[g], yard, crowd) >= eye) {
                    set |= 1 << g;
                }
            }
            return set;
        }

        int tallyOf(int set) {
            int tally = 0;
            for (int g = 0; g < many; g++) {
                if ((set >> g & 1) == 1) {
                    tally += geese[g].tallies();
                }
            }
            return tally;
        }

        boolean wouldHold(int yard) {
            return tallyOf(witnesses(yard)) >= need[yard];
        }

        int yardsThatHold() {
            int set = 0;
            for (int yard = 0; yard < YARDS; yard++) {
                if (wouldHold(yard)) {
                    set |= 1 << yard;
                }
            }
            return set;
        }

        /** 1 if it holds, else 0. */
        int bargain(int yard) {
            int set = witnesses(yard);
            if (tallyOf(set) < need[yard]) {
                broken = Math.min(MOST_TOLD, broken + 1);
                return 0;
            }
            held = Math.min(MOST_TOLD, held + 1);
            for (int g = 0; g < many; g++) {
                if ((set >> g & 1) == 1) {
                    geese[g].saw = Math.min(MOST_SAW, geese[g].saw + 1);
                }
            }
            return 1;
        }

        /** Adds to each eye's number 1, if the bargain of this day would hold with that eye. */
        void bargainWithEachEye(int[] heldWith) {
            int yard = day % YARDS;
            int crowd = crowd(yard);
            Arrays.fill(tallyAt, 0);
            for (int g = 0; g < many; g++) {
                if (geese[g].yard == yard) {
                    int seen = within(sees(geese[g], yard, crowd), 0, TOP);
                    tallyAt[seen] += geese[g].tallies();
                }
            }
            int tally = 0;
            for (int with = TOP; with >= 0; with--) {
                tally += tallyAt[with];
                if (tally >= need[yard]) {
                    heldWith[with] = Math.min(MOST_TOLD, heldWith[with] + 1);
                }
            }
        }

        void pass(int n) {
            for (int d = 0; d < n; d++) {
                bargain(day % YARDS);
                wander();
                growOlder();
                meetFox();
                day++;
            }
        }

        void wander() {
            for (int g = 0; g < many; g++) {
                geese[g].yard = (geese[g].yard + geese[g].wanders()) % YARDS;
            }
        }

        private void growOlder() {
            if (day % 5 == 4) {
                for (int g = 0; g < many; g++) {
                    geese[g].age = Math.min(TOP, geese[g].age + 1);
                }
            }
        }

        private void meetFox() {
            if (draw() % 100 < fox && many > 0) {
                Goose one = geese[draw() % many];
                one.age = 0;
                one.saw = 0;
                taken = Math.min(MOST_TOLD, taken + 1);
            }
        }

        int ageTogether() {
            int sum = 0;
            for (int g = 0; g < many; g++) {
                sum += geese[g].age;
            }
            return sum;
        }

        int sawTogether() {
            int sum = 0;
            for (int g = 0; g < many; g++) {
                sum += geese[g].saw;
            }
            return sum;
        }

        int eldest() {
            int found = NONE;
            int most = -1;
            for (int g = 0; g < many; g++) {
                if (geese[g].age > most) {
                    most = geese[g].age;
                    found = g;
                }
            }
            return found;
        }

        /** The least of the smallest sets that would do in a yard, or NONE. */
        int fewestDriven(int yard) {
            int there = geeseIn(yard);
            int room = many - Integer.bitCount(there);
            for (int driven = 0; driven <= room; driven++) {
                // How one sees hangs on how many come, not on which: one look at all serves for all sets of a size.
                int seeing = seeingIn(yard, many - room + driven);
                for (int set = 0; set < 1 << many; set++) {
                    if ((set & there) == 0 && Integer.bitCount(set) == driven
                            && tallyOf((set | there) & seeing) >= need[yard]) {
                        return set;
                    }
                }
            }
            return NONE;
        }

        /** The geese that would see enough, were they in a yard with so many in it. */
        private int seeingIn(int yard, int crowd) {
            int set = 0;
            for (int g = 0; g < many; g++) {
                if (sees(geese[g], yard, crowd) >= eye) {
                    set |= 1 << g;
                }
            }
            return set;
        }
    }

    /** A text as it is worked out: a row of numbers (0 or more), names and acts (below 0), each act behind what it takes. */
    private static final class Law {
        static final int FIRST_NAME = -1, LAST_NAME = -4;
        static final int NOT = -10, TIMES = -11, BY = -12, PLUS = -13, LESS = -14,
                BELOW = -15, EQUAL = -16, ABOVE = -17, AND = -18, OR = -19;

        final int key, operands;
        private final int[] row;
        /** Made once: a law is worked out some thousand times a call. */
        private final int[] stack;

        Law(int key, int operands, int[] row) {
            this.key = key;
            this.operands = operands;
            this.row = row;
            stack = new int[Math.max(1, operands)];
        }

        /** What it gives, its names standing for these, in their order. */
        int gives(int first, int second, int third, int fourth) {
            int top = 0;
            for (int at = 0; at < row.length; at++) {
                int word = row[at];
                if (word >= LAST_NAME) {
                    if (top >= stack.length) {
                        return 0;
                    }
                    int named = word == -1 ? first : word == -2 ? second : word == -3 ? third : fourth;
                    stack[top] = word >= 0 ? word : named;
                    top++;
                } else if (word == NOT) {
                    if (top < 1) {
                        return 0;
                    }
                    stack[top - 1] = stack[top - 1] == 0 ? 1 : 0;
                } else {
                    if (top < 2) {
                        return 0;
                    }
                    stack[top - 2] = worked(word, stack[top - 2], stack[top - 1]);
                    top--;
                }
            }
            return stack[0];
        }

        private static int worked(int act, int a, int b) {
            switch (act) {
                case TIMES:
                    return a * b;
                case BY:
                    return b == 0 ? 0 : a / b;
                case PLUS:
                    return a + b;
                case LESS:
                    return a - b;
                case BELOW:
                    return a < b ? 1 : 0;
                case EQUAL:
                    return a == b ? 1 : 0;
                case ABOVE:
                    return a > b ? 1 : 0;
                case AND:
                    return a != 0 && b != 0 ? 1 : 0;
                default:
                    return a != 0 || b != 0 ? 1 : 0;
            }
        }
    }

    /** The tape, and how a text is read from it: by the grammar's own levels, one word or sign ahead. */
    private static final class Reader {
        private static final int END = 0, LETTERS = 1, DIGITS = 2, SIGN = 3, GLUED = 4;

        private final int[] tape = new int[TAPE_ROOM];
        private final int[] row = new int[TAPE_ROOM];
        int length = 0;
        /** Where the word or sign begins that is looked at; if the text is none, its fault. */
        int start = 0;
        private int end, sort, size, operands, key;

        void addBytes(int four) {
            for (int shift = 24; shift >= 0 && length < TAPE_ROOM; shift -= 8) {
                tape[length] = four >>> shift & 255;
                length++;
            }
        }

        /** The text that was understood last. */
        Law written() {
            return new Law(key, operands, Arrays.copyOf(row, size));
        }

        boolean understands() {
            end = 0;
            sort = END;
            size = 0;
            operands = 0;
            advance();
            return readKey() && readOr(0, 0) && sort == END;
        }

        private static boolean isLetter(int b) {
            return b >= 'a' && b <= 'z';
        }

        private static boolean isDigit(int b) {
            return b >= '0' && b <= '9';
        }

        private void advance() {
            boolean behindWord = sort == LETTERS || sort == DIGITS;
            int before = end;
            start = end;
            while (start < length && tape[start] == ' ') {
                start++;
            }
            end = start;
            if (start >= length) {
                sort = END;
                return;
            }
            sort = isLetter(tape[start]) ? LETTERS : isDigit(tape[start]) ? DIGITS : SIGN;
            end++;
            while (end < length && (sort == LETTERS && isLetter(tape[end]) || sort == DIGITS && isDigit(tape[end]))) {
                end++;
            }
            if (behindWord && start == before && sort != SIGN) {
                sort = GLUED;
            }
        }

        private boolean isSign(int sign) {
            return sort == SIGN && tape[start] == sign;
        }

        private boolean isWord(String word) {
            if (sort != LETTERS || end - start != word.length()) {
                return false;
            }
            for (int i = 0; i < word.length(); i++) {
                if (tape[start + i] != word.charAt(i)) {
                    return false;
                }
            }
            return true;
        }

        private void write(int word) {
            if (size < TAPE_ROOM) {
                row[size] = word;
                size++;
            }
        }

        private boolean readKey() {
            if (isWord("look")) {
                key = LOOK;
            } else if (isWord("fee")) {
                key = FEE;
            } else if (isWord("fine")) {
                key = FINE;
            } else {
                return false;
            }
            advance();
            return true;
        }

        private boolean readOr(int open, int nots) {
            boolean good = readAnd(open, nots);
            for (int more = 0; more < TAPE_ROOM && good && isSign('|'); more++) {
                advance();
                good = readAnd(open, nots);
                write(Law.OR);
            }
            return good;
        }

        private boolean readAnd(int open, int nots) {
            boolean good = readTest(open, nots);
            for (int more = 0; more < TAPE_ROOM && good && isSign('&'); more++) {
                advance();
                good = readTest(open, nots);
                write(Law.AND);
            }
            return good;
        }

        private boolean readTest(int open, int nots) {
            if (!readSum(open, nots)) {
                return false;
            }
            int act = isSign('<') ? Law.BELOW : isSign('=') ? Law.EQUAL : isSign('>') ? Law.ABOVE : 0;
            if (act == 0) {
                return true;
            }
            advance();
            boolean good = readSum(open, nots);
            write(act);
            return good;
        }

        private boolean readSum(int open, int nots) {
            boolean good = readTerm(open, nots);
            for (int more = 0; more < TAPE_ROOM && good && (isSign('+') || isSign('-')); more++) {
                int act = isSign('+') ? Law.PLUS : Law.LESS;
                advance();
                good = readTerm(open, nots);
                write(act);
            }
            return good;
        }

        private boolean readTerm(int open, int nots) {
            boolean good = readPiece(open, nots);
            for (int more = 0; more < TAPE_ROOM && good && (isSign('*') || isSign('/')); more++) {
                int act = isSign('*') ? Law.TIMES : Law.BY;
                advance();
                good = readPiece(open, nots);
                write(act);
            }
            return good;
        }

        private boolean readPiece(int open, int nots) {
            if (isSign('!') && nots < DEEPEST) {
                advance();
                boolean good = readPiece(open, nots + 1);
                write(Law.NOT);
                return good;
            }
            if (isSign('(') && open < DEEPEST) {
                advance();
                if (!readOr(open + 1, nots) || !isSign(')')) {
                    return false;
                }
                advance();
                return true;
            }
            return sort == DIGITS ? readNumber() : sort == LETTERS && readName();
        }

        private boolean readNumber() {
            if (end - start > 4) {
                return false;
            }
            int number = 0;
            for (int at = start; at < end; at++) {
                number = number * 10 + tape[at] - '0';
            }
            return readOperand(number);
        }

        private boolean readName() {
            String names = key == LOOK ? "gayn" : key == FEE ? "hb" : "gs";
            int which = end - start == 1 ? names.indexOf((char) tape[start]) : -1;
            return which >= 0 && readOperand(Law.FIRST_NAME - which);
        }

        private boolean readOperand(int word) {
            write(word);
            operands++;
            advance();
            return true;
        }
    }

    /** A row of shorts or floats, or none; NONE in it is no number. */
    private static final class Sheet {
        int sort = MISSING, places = 0;
        final int[] row = new int[MOST_PLACES];

        boolean isMissing() {
            return sort == MISSING;
        }

        void begin(int newSort, int n) {
            sort = newSort;
            places = n;
            Arrays.fill(row, 0);
        }

        void become(Sheet other) {
            sort = other.sort;
            places = other.places;
            System.arraycopy(other.row, 0, row, 0, MOST_PLACES);
        }

        boolean isNumber(int place) {
            return row[place] != NONE;
        }

        boolean hasPlaces(int from, int n) {
            return from >= 0 && from <= places && n <= places - from;
        }
    }

    /** What a slot holds: of its three fields that counts which its thing names. */
    private static final class Slot {
        int thing = HOLDS_NOTHING, number = 0;
        final Goose goose = new Goose();
        final Sheet sheet = new Sheet();
    }
}
