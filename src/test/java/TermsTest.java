import java.lang.reflect.Field;

/** The sentences of the document's "Terms" that name a boundary, each by itself: just inside, just outside. */
public final class TermsTest extends Trial {
    private static final int[] OUTSIDE_YARDS = {MIN, -1, 6, MAX};

    // ---- the head

    private static void wholeNumbers() {
        says("/ cuts towards 0");
        fee("7/2", 3);
        fee("(0-7)/2", -3);
        fee("(0-1)/2", 0);
        fee("7/(0-2)", -3);
        GooseCounty x = new GooseCounty();
        x.lay(0, 3, -7);
        due("the rest goes with it", x.rest(0, 2), -1);
        due("the rest goes with it", x.rest(0, -2), -1);
        x.lay(0, 3, 7);
        due("the rest goes with it", x.rest(0, -2), 1);
    }

    private static void sets() {
        says("Sets of GEESE, YARDS are told by bits");
        GooseCounty x = new GooseCounty();
        for (int g = 0; g < 10; g++) {
            x.goose(GOOSE, 99, 0, g == 0 || g == 9 ? 5 : 0);
        }
        due("first and last goose", x.yardOf(5, 2), 1 | 512);
        due("first and last witness", x.yardOf(5, 3), 1 | 512);
        due("all others", x.yardOf(0, 2), 510);
        due("first and last yard", x.county(3), 1 | 32);
        due("and behind no days", x.behind(0, 3), 1 | 32);
        x.needs(0, 20);
        due("first and last are driven", x.drive(0, 0), 1 | 512);
    }

    // ---- part 1

    private static void yards() {
        says("YARDS 0 .. 5, each with a NEED 0 .. 99 (2 at first)");
        GooseCounty x = six();
        for (int yard : OUTSIDE_YARDS) {
            due("goose in " + yard, x.goose(0, 1, 1, yard), BAD);
            due("set to " + yard, x.set(0, 3, yard), BAD);
            due("needs of " + yard, x.needs(yard, 1), BAD);
            due("yardOf " + yard, x.yardOf(yard, 0), BAD);
            due("drive to " + yard, x.drive(yard, 0), BAD);
            due("strike in " + yard, x.strike(yard), BAD);
            due("holds of " + yard, x.holds(yard), BAD);
        }
        for (int yard = 0; yard < 6; yard++) {
            due("need at first", x.yardOf(yard, 0), 2);
            due("goose may be in " + yard, x.set(0, 3, yard), Math.max(0, yard - 1));
            due("it is there", x.yardOf(yard, 2) & 1, 1);
            due("needs at most", x.needs(yard, 99), 2);
            due("needs above", x.needs(yard, 100), BAD);
            due("it stays", x.yardOf(yard, 0), 99);
            due("needs at least", x.needs(yard, 0), 99);
            due("needs below", x.needs(yard, -1), BAD);
            due("it stays", x.yardOf(yard, 0), 0);
        }
    }

    private static void tenGeese() {
        says("GEESE, 10 at most, numbered from 0");
        GooseCounty x = new GooseCounty();
        for (int g = 0; g < 10; g++) {
            due("number", x.goose(g % 6, g, g, 0), g);
        }
        due("the eleventh", x.goose(0, 0, 0, 0), FULL);
        due("none is drawn", x.deal(1), 0);
        due("ten", x.count(0), 10);
        due("the last is told", x.told(9, 1), 9);
        due("behind it is none", x.told(10, 1), BAD);
        due("ahead of 0 is none", x.told(-1, 1), BAD);
        due("all are there", x.yardOf(0, 2), 1023);
    }

    private static void traits() {
        says("SIGHT 0 .. 99, AGE 0 .. 99, a YARD, SAW 0 .. 9999 (how many bargains; 0 at first)");
        GooseCounty x = new GooseCounty();
        due("least", x.goose(0, 0, 0, 0), 0);
        due("most", x.goose(5, 99, 99, 5), 1);
        due("saw at first", x.told(0, 4), 0);
        due("saw at first", x.told(1, 4), 0);
        int[][] outside = {{-1, 0, 0, 0}, {6, 0, 0, 0}, {0, -1, 0, 0}, {0, 100, 0, 0}, {0, 0, -1, 0}, {0, 0, 100, 0}};
        for (int[] o : outside) {
            due("goose outside", x.goose(o[0], o[1], o[2], o[3]), BAD);
        }
        int[] most = {0, 99, 99, 5, 9999};
        for (int what = 1; what <= 4; what++) {
            due("set most", x.set(0, what, most[what]), 0);
            due("set above", x.set(0, what, most[what] + 1), BAD);
            due("set below", x.set(0, what, -1), BAD);
            due("it stays", x.told(0, what), most[what]);
        }
        x.turns(0, SLEEPER);
        x.deal(1);
        due("saw of a drawn one", x.told(2, 4), 0);
    }

    private static void kinds() {
        says("0 GOOSE; 1 GANDER, 2 SLEEPER, 5 EGG, under GOOSE; 3 MYOPIC, under GANDER; 4 ABROAD, under SLEEPER (all are GEESE)");
        int[][] is = {{1, 0, 0, 0, 0, 0}, {1, 1, 0, 0, 0, 0}, {1, 0, 1, 0, 0, 0}, {1, 1, 0, 1, 0, 0}, {1, 0, 1, 0, 1, 0},
            {1, 0, 0, 0, 0, 1}};
        GooseCounty x = six();
        for (int g = 0; g < 6; g++) {
            x.lay(0, 1, g);
            for (int kind = 0; kind < 6; kind++) {
                due(g + " as " + kind, x.as(g, kind), is[g][kind] == 1 ? 60 : KIND);
                due(g + " asked for as " + kind, x.ask(0, kind) == KIND ? 0 : 1, is[g][kind]);
            }
        }
    }

    private static void rules() {
        says("0 EYE 0 .. 99 (20 at first), 1 FOX 0 .. 100 (0)");
        GooseCounty x = new GooseCounty();
        due("eye at first", x.count(2), 20);
        due("fox at first", x.count(3), 0);
        due("eye most", x.rule(0, 99), 20);
        due("eye above", x.rule(0, 100), BAD);
        due("eye stays", x.count(2), 99);
        due("eye least", x.rule(0, 0), 99);
        due("eye below", x.rule(0, -1), BAD);
        due("eye stays", x.count(2), 0);
        due("fox most", x.rule(1, 100), 0);
        due("fox above", x.rule(1, 101), BAD);
        due("fox stays", x.count(3), 100);
        due("fox least", x.rule(1, 0), 100);
        due("fox below", x.rule(1, -1), BAD);
        due("fox stays", x.count(3), 0);
    }

    /** No run of 512 calls gets there: this alone reaches inside. */
    private static void reach(GooseCounty x, String field, int v) {
        try {
            Field now = GooseCounty.class.getDeclaredField("now");
            now.setAccessible(true);
            Field counter = now.get(x).getClass().getDeclaredField(field);
            counter.setAccessible(true);
            counter.setInt(now.get(x), v);
        } catch (ReflectiveOperationException e) {
            fail("no field " + field);
        }
    }

    private static void counters() {
        says("HELD, BROKEN, TAKEN are 0 at first, 99999 at most");
        GooseCounty x = six();
        due("held at first", x.county(0), 0);
        due("broken at first", x.county(1), 0);
        due("taken at first", x.county(2), 0);
        x.rule(1, 100);
        x.needs(0, 99);
        for (String field : new String[] {"held", "broken", "taken"}) {
            reach(x, field, 99998);
        }
        due("strike", x.strike(2), 1);
        due("held at most", x.county(0), 99999);
        due("it still holds", x.strike(2), 1);
        due("held at most", x.county(0), 99999);
        x.days(1);
        due("broken at most", x.county(1), 99999);
        due("taken at most", x.county(2), 99999);
        x.days(1);
        x.strike(0);
        due("broken at most", x.county(1), 99999);
        due("taken at most", x.county(2), 99999);
        x.strike(2);
        due("by no more", x.days(6), 0);
        due("with each eye", x.eyes(6, 99999), 99);
    }

    private static void theDay() {
        says("THE DAY is 0 at first, 9999 at most");
        GooseCounty x = one(GOOSE, 99, 0, 3);
        due("at first", x.count(1), 0);
        pass(x, 9998);
        due("one is left", x.count(1), 9998);
        int broken = x.county(1);
        x.days(2);
        due("at most", x.count(1), 9999);
        due("one day went by", x.county(1), broken + 1);
        due("none is left", x.days(1), 0);
        due("at most", x.count(1), 9999);
        due("no bargain more", x.county(0) + x.county(1), 9999);
    }

    private static void plainLook() {
        says("PLAIN look: what look gives, held within 0 and 99");
        GooseCounty x = one(GOOSE, 0, 0, 0);
        String[] laws = {"look 0-1", "look 0", "look 1", "look 98", "look 99", "look 100", "look 9999*9999*30"};
        int[] sees = {0, 0, 1, 98, 99, 99, 0};
        for (int i = 0; i < laws.length; i++) {
            law(x, laws[i]);
            due(laws[i], x.told(0, 5), sees[i]);
        }
        says("(without a TEXT: SIGHT less half (cut) of AGE, held likewise)");
        int[][] rows = {{0, 0, 0}, {0, 1, 0}, {0, 2, 0}, {0, 99, 0}, {1, 2, 0}, {1, 3, 0}, {2, 3, 1}, {49, 99, 0}, {50, 99, 1},
            {99, 0, 99}, {99, 1, 99}, {99, 2, 98}, {99, 99, 50}};
        for (int[] row : rows) {
            due("sight " + row[0] + ", age " + row[1], one(GOOSE, row[0], row[1], 0).told(0, 5), row[2]);
        }
    }

    private static void seesByKind() {
        says("MYOPIC: a third (cut) of as GANDER");
        int[][] thirds = {{0, 0}, {2, 0}, {3, 1}, {5, 1}, {6, 2}, {98, 32}, {99, 33}};
        for (int[] t : thirds) {
            due("a third of " + t[0], one(MYOPIC, t[0], 0, 0).told(0, 5), t[1]);
            due("as goose", one(GANDER, t[0], 0, 0).told(0, 5), t[0]);
        }
        says("SLEEPER: as GOOSE, but 99, if THE DAY is odd");
        GooseCounty x = one(SLEEPER, 7, 0, 0);
        for (int day = 0; day < 4; day++) {
            due("day " + day, x.told(0, 5), day % 2 == 1 ? 99 : 7);
            x.days(1);
        }
        pass(x, 9995);
        due("the last day is odd", x.told(0, 5), 99);
        says("EGG: 1.");
        GooseCounty y = one(EGG, 99, 0, 0);
        due("egg", y.told(0, 5), 1);
        law(y, "look 50");
        due("egg, with a text", y.told(0, 5), 1);
        y.days(1);
        due("egg, on an odd day", y.told(0, 5), 1);
        y.rule(0, 1);
        due("a witness at 1", y.yardOf(0, 3), 1);
        y.rule(0, 2);
        due("none at 2", y.yardOf(0, 3), 0);
    }

    private static void seesAbroad() {
        says("ABROAD: as SLEEPER, less 9 for each other of GEESE (of any KIND) in its YARD (0 at least)");
        GooseCounty x = one(ABROAD, 20, 0, 2);
        int[] even = {20, 11, 2, 0, 0, 0, 0, 0, 0, 0};
        for (int others = 0; others < 10; others++) {
            due("among " + others, x.told(0, 5), even[others]);
            x.goose(others % 6, 1, 0, 2);
        }
        GooseCounty y = one(ABROAD, 20, 0, 2);
        y.goose(ABROAD, 18, 0, 3);
        y.days(1);
        for (int others = 0; others < 9; others++) {
            y.set(0, 3, 1);
            due("odd, among " + others, y.told(0, 5), 99 - 9 * others);
            y.goose(others % 6, 1, 0, 1);
        }
        due("those of another yard do not count", y.told(1, 5), 99);
        due("just 0", nine(9), 0);
        due("not below 0", nine(8), 0);
        due("just above", nine(10), 1);
    }

    /** What one abroad of this sight sees beside one other. */
    private static int nine(int sight) {
        GooseCounty x = one(ABROAD, sight, 0, 0);
        x.goose(EGG, 0, 0, 0);
        return x.told(0, 5);
    }

    private static void tallyWanderWorth() {
        says("TALLIES (may be below 0)");
        int[] tallies = {2, 1, 3, -2, 3, 4};
        int[] wanders = {0, 1, 0, 2, 3, 0};
        GooseCounty x = six();
        for (int kind = 0; kind < 6; kind++) {
            due("tallies", x.told(kind, 7), tallies[kind]);
            due("wanders", x.told(kind, 6), wanders[kind]);
        }
        x.rule(0, 0);
        due("count below 0", x.yardOf(3, 1), -2);
        says("MYOPIC: half (cut) of as GANDER. SLEEPER: 99 less AGE. ABROAD: as SLEEPER, and 5. EGG: SAW.");
        due("least worth", worth(GOOSE, 0, 99, 9999), 0);
        due("most worth", worth(GOOSE, 99, 0, 0), 99);
        due("gander", worth(GANDER, 99, 0, 9999), 10098);
        due("half is cut", worth(MYOPIC, 0, 0, 1), 0);
        due("half is cut", worth(MYOPIC, 1, 0, 2), 1);
        due("half", worth(MYOPIC, 1, 0, 1), 1);
        due("half of most", worth(MYOPIC, 99, 0, 9999), 5049);
        due("oldest sleeper", worth(SLEEPER, 9, 99, 9), 0);
        due("youngest sleeper", worth(SLEEPER, 9, 0, 9), 99);
        due("oldest abroad", worth(ABROAD, 9, 99, 9), 5);
        due("youngest abroad", worth(ABROAD, 9, 0, 9), 104);
        due("egg", worth(EGG, 99, 99, 0), 0);
        due("egg", worth(EGG, 0, 0, 9999), 9999);
    }

    private static int worth(int kind, int sight, int age, int saw) {
        GooseCounty x = one(kind, sight, age, 0);
        x.set(0, 4, saw);
        return x.told(0, 8);
    }

    // ---- part 2

    private static void witnesses() {
        says("GEESE in it that SEE as much as EYE or more");
        GooseCounty x = one(GOOSE, 20, 0, 0);
        x.goose(GOOSE, 19, 0, 0);
        x.goose(GOOSE, 21, 0, 0);
        x.goose(GOOSE, 21, 0, 1);
        due("as much, or more", x.yardOf(0, 3), 1 | 4);
        x.rule(0, 21);
        due("one is too dim now", x.yardOf(0, 3), 4);
        x.rule(0, 22);
        due("all are", x.yardOf(0, 3), 0);
        x.rule(0, 0);
        x.set(1, 1, 0);
        due("0 sees as much as 0", x.yardOf(0, 3), 7);
        x.rule(0, 99);
        x.set(2, 1, 99);
        due("99 sees as much as 99", x.yardOf(0, 3), 4);
    }

    private static void bargains() {
        says("it holds, if COUNT is its NEED or more");
        GooseCounty x = one(GOOSE, 60, 0, 0);
        due("just the need", x.strike(0), 1);
        x.needs(0, 3);
        due("one less", x.strike(0), 0);
        x.needs(0, 1);
        due("one more", x.strike(0), 1);
        due("no goose, need 2", x.strike(1), 0);
        x.needs(1, 1);
        due("no goose, need 1", x.strike(1), 0);
        x.needs(1, 0);
        due("no goose, need 0", x.strike(1), 1);
        x.goose(MYOPIC, 99, 0, 1);
        due("count -2, need 0", x.strike(1), 0);
        x.goose(GOOSE, 99, 0, 1);
        due("count 0, need 0", x.strike(1), 1);
        due("held", x.county(0), 4);
        due("broken", x.county(1), 4);
        says("SAW of each of the WITNESSES, too (9999 at most); else BROKEN is 1 more");
        GooseCounty y = one(GOOSE, 60, 0, 0);
        y.goose(GOOSE, 19, 0, 0);
        y.goose(GOOSE, 60, 0, 1);
        y.set(0, 4, 9998);
        y.strike(0);
        due("one more", y.told(0, 4), 9999);
        y.strike(0);
        due("9999 at most", y.told(0, 4), 9999);
        due("no witness", y.told(1, 4), 0);
        due("not there", y.told(2, 4), 0);
        y.needs(1, 3);
        y.strike(1);
        due("broken, and not seen", y.told(2, 4), 0);
        due("broken", y.county(1), 1);
        due("held", y.county(0), 2);
    }

    private static void yardOfTheDay() {
        says("A BARGAIN in the YARD that is the rest of THE DAY by 6");
        GooseCounty x = new GooseCounty();
        for (int yard = 0; yard < 6; yard++) {
            x.goose(SLEEPER, 99, 0, yard);
        }
        for (int day = 0; day < 14; day++) {
            due("day " + day, x.days(1), 1);
            for (int yard = 0; yard < 6; yard++) {
                due("seen in " + yard, x.told(yard, 4), day / 6 + (yard <= day % 6 ? 1 : 0));
            }
        }
    }

    private static void wandering() {
        says("YARD is what it WANDERS farther (round, 0 behind 5)");
        int[] wanders = {0, 1, 0, 2, 3, 0};
        for (int kind = 0; kind < 6; kind++) {
            for (int yard = 0; yard < 6; yard++) {
                GooseCounty x = one(kind, 50, 0, yard);
                x.days(1);
                int to = yard + wanders[kind];
                due("from " + yard, x.told(0, 3), to > 5 ? to - 6 : to);
            }
        }
        says("(1) A BARGAIN");
        GooseCounty x = one(GANDER, 50, 0, 0);
        x.needs(0, 1);
        due("a bargain comes ahead of wandering", x.days(1), 1);
        GooseCounty y = one(GANDER, 50, 0, 5);
        y.needs(0, 1);
        due("and does not wait for it", y.days(1), 0);
    }

    private static void ageing() {
        says("AGE is 1 more (99 at most), if THE DAY leaves 4 by 5");
        GooseCounty x = one(GOOSE, 60, 10, 0);
        for (int day = 0; day < 16; day++) {
            due("ahead of day " + day, x.told(0, 2), 10 + day / 5);
            x.days(1);
        }
        GooseCounty y = one(EGG, 60, 98, 0);
        y.goose(SLEEPER, 60, 99, 0);
        y.days(4);
        due("not yet", y.told(0, 2), 98);
        y.days(1);
        due("one more", y.told(0, 2), 99);
        due("99 at most", y.told(1, 2), 99);
        y.days(5);
        due("99 at most", y.told(0, 2), 99);
        due("in thought, too", y.behind(100, 4), 198);
    }

    /** The least seed from which the first draw leaves this rest by 100. */
    private static int seedFor(int rest) {
        int seed = 0;
        while ((drawn(seed) >>> 8) % 100 != rest) {
            seed++;
        }
        return seed;
    }

    private static void taken(int fox, int rest, int taken) {
        GooseCounty x = one(GOOSE, 60, 50, 0);
        x.rule(1, fox);
        x.seed(seedFor(rest));
        x.set(0, 4, 7);
        x.needs(0, 99);
        x.days(1);
        due("fox " + fox + ", rest " + rest, x.county(2), taken);
        due("age then", x.told(0, 2), taken == 1 ? 0 : 50);
        due("saw then", x.told(0, 4), taken == 1 ? 0 : 7);
        int z = drawn(seedFor(rest));
        due("one more draw", x.count(7), taken == 1 ? drawn(z) : z);
    }

    private static void fox() {
        says("(3) A draw; if its rest by 100 is below FOX, and there are GEESE, one more");
        taken(0, 0, 0);
        taken(1, 0, 1);
        taken(1, 1, 0);
        taken(50, 49, 1);
        taken(50, 50, 0);
        taken(99, 98, 1);
        taken(99, 99, 0);
        taken(100, 99, 1);
        GooseCounty none = new GooseCounty();
        none.rule(1, 100);
        none.days(1);
        due("no geese: one draw", none.count(7), drawn(1));
        due("no geese: none taken", none.county(2), 0);
        says("AGE, SAW of the one that is its rest by how many there are become 0, TAKEN is 1 more");
        for (int many = 1; many <= 10; many++) {
            GooseCounty x = new GooseCounty();
            for (int g = 0; g < many; g++) {
                x.goose(GOOSE, 0, 98, 0);
            }
            x.days(4);
            x.rule(1, 100);
            x.seed(many);
            x.days(1);
            int one = (drawn(drawn(many)) >>> 8) % many;
            for (int g = 0; g < many; g++) {
                due("goose " + g + " of " + many, x.told(g, 2), g == one ? 0 : 99);
            }
            due("taken", x.county(2), 1);
        }
        GooseCounty y = one(GOOSE, 99, 0, 0);
        y.rule(1, 100);
        due("it saw this day's bargain", y.days(1), 1);
        due("but the fox came behind it", y.told(0, 4), 0);
    }

    private static void draws() {
        says("z is told (1 at first). A draw: z becomes z * 1103515245 + 12345 (an int); it gives z >>> 8");
        GooseCounty x = new GooseCounty();
        due("z at first", x.count(7), 1);
        says("KIND the rest of a draw by 6, SIGHT that of one more by 100, AGE that of one more by 40, YARD that of one more by 6");
        int[] by = {6, 100, 40, 6};
        for (int seed : new int[] {1, 0, -1, MIN, MAX, 7, 1 << 30, -99999}) {
            GooseCounty y = new GooseCounty();
            y.seed(seed);
            due("one is drawn", y.deal(1), 1);
            long z = seed;
            for (int what = 0; what < 4; what++) {
                z = z * 1103515245L + 12345L & 0xffffffffL;
                due("seed " + seed + ", trait " + what, y.told(0, what), (int) ((z >> 8) % by[what]));
            }
            due("z behind seed " + seed, y.count(7), (int) z);
        }
    }

    // ---- part 3

    private static void eldest() {
        says("ELDEST: the one with most AGE; of several the least");
        GooseCounty x = one(GOOSE, 1, 0, 0);
        due("one of age 0", x.county(6), 0);
        x.goose(GOOSE, 1, 0, 0);
        due("two of age 0", x.county(6), 0);
        x.set(1, 2, 1);
        due("older by 1", x.county(6), 1);
        x.set(0, 2, 1);
        due("as old", x.county(6), 0);
    }

    private static void drive() {
        says("the set of fewest GEESE that are not in it such that");
        GooseCounty x = one(GOOSE, 60, 0, 0);
        x.goose(GOOSE, 60, 0, 1);
        x.goose(SLEEPER, 60, 0, 1);
        x.goose(SLEEPER, 60, 0, 1);
        due("none need be driven", x.drive(0, 0), 0);
        x.needs(0, 4);
        due("one, of several the least", x.drive(0, 0), 2);
        x.needs(0, 5);
        due("one that will do", x.drive(0, 0), 4);
        x.needs(0, 6);
        due("two, of several the least", x.drive(0, 0), 6);
        x.needs(0, 8);
        due("two that will do, rather than three", x.drive(0, 0), 12);
        x.needs(0, 10);
        due("all", x.drive(0, 0), 14);
        due("all are three", x.drive(0, 1), 3);
        x.needs(0, 11);
        due("by none", x.drive(0, 0), NONE);
        due("by none", x.drive(0, 1), NONE);
        x.needs(0, 99);
        x.set(1, 3, 0);
        x.set(2, 3, 0);
        x.set(3, 3, 0);
        due("nobody is left to drive", x.drive(0, 0), NONE);
        due("nothing changes", x.yardOf(0, 2), 15);
        says("if these were in it now, too, a BARGAIN would hold there now; of several the least");
        GooseCounty y = one(GOOSE, 19, 0, 1);
        y.goose(GOOSE, 20, 0, 1);
        y.goose(GOOSE, 21, 0, 1);
        due("one that sees too little is of no use", y.drive(0, 0), 2);
        y.rule(0, 21);
        due("nor one that sees just less", y.drive(0, 0), 4);
        y.turns(2, ABROAD);
        y.set(2, 1, 29);
        y.needs(0, 5);
        due("abroad it sees 20 beside one other", y.drive(0, 0), NONE);
        y.rule(0, 20);
        due("20 is enough now", y.drive(0, 0), 2 | 4);
        y.set(1, 3, 0);
        due("beside one that is there", y.drive(0, 0), 4);
        y.goose(EGG, 0, 0, 0);
        due("but not beside two", y.drive(0, 0), NONE);
        GooseCounty z = one(GOOSE, 0, 0, 1);
        z.goose(GOOSE, 0, 0, 0);
        z.goose(GOOSE, 0, 0, 0);
        z.goose(GOOSE, 0, 0, 2);
        law(z, "look n*10+y");
        z.rule(0, 36);
        z.needs(0, 7);
        due("look is that of the yard that they come to", z.drive(0, 0), 1 | 8);
        z.needs(0, 6);
        due("and of how many are there then", z.drive(0, 0), 1);
        z.rule(0, 37);
        due("three see 36, four 46", z.drive(0, 0), 1 | 8);
        GooseCounty w = one(GOOSE, 0, 0, 0);
        w.goose(MYOPIC, 99, 0, 1);
        law(w, "look n*10+g");
        due("beside one more it would see, but that one spoils it", w.drive(0, 0), NONE);
    }

    private static GooseCounty lastDay(int kind, int yard) {
        GooseCounty x = one(kind, 60, 0, 0);
        x.goose(GOOSE, 60, 0, 3);
        law(x, "look g");
        pass(x, 9999);
        x.set(0, 3, yard);
        for (int g = 0; g < 2; g++) {
            x.set(g, 2, 0);
            x.set(g, 4, 0);
        }
        return x;
    }

    private static void withoutTheBound() {
        says("only thought, z as it is, without the bound of THE DAY: nothing changes");
        GooseCounty x = lastDay(GANDER, 1);
        x.needs(3, 3);
        x.needs(2, 3);
        int held = x.county(0);
        int broken = x.county(1);
        int z = x.count(7);
        due("alone the goose is not enough", x.behind(6, 0), held);
        due("broken goes on", x.behind(6, 1), broken + 6);
        due("two days on", x.holds(3), 2);
        due("they meet", x.meets(0, 1), 2);
        due("the gander had best be there", x.place(0, 1, 0), 3);
        due("and it is held then", x.place(0, 1, 1), held + 1);
        due("abroad it would be in yards 1 and 4 on their days", x.becomes(0, 60, 0), ABROAD);
        x.set(0, 3, 3);
        due("a goose will do today", x.becomes(0, 1, 0), GOOSE);
        due("how sharp", x.eyes(1, held + 1), 60);
        x.sheet(0, 0, 2);
        x.mark(0, 1, 1);
        due("both saw it", x.like(0, 1), 0);
        due("9999 leaves 4 by 5", x.behind(1, 4), 2);
        due("and so does 10004", x.behind(5, 4), 2);
        due("and so does 10004", x.behind(6, 4), 4);
        due("the day stays", x.count(1), 9999);
        due("z stays", x.count(7), z);
        due("held stays", x.county(0), held);
        due("broken stays", x.county(1), broken);
        due("saw stays", x.county(5), 0);
        x.rule(1, 100);
        due("the fox comes in thought", x.behind(100, 2), 100);
        due("z stays", x.count(7), z);
        due("nobody is taken", x.county(2), 0);
    }

    private static void holdsAndMeets() {
        says("HOLDS of a YARD: behind how many DAYS (0 .. 200) a BARGAIN would hold there first");
        GooseCounty x = one(GOOSE, 0, 0, 3);
        law(x, "look a");
        int[][] rows = {{0, 0}, {1, 5}, {39, 195}, {40, 200}, {41, NONE}};
        for (int[] row : rows) {
            x.rule(0, row[0]);
            due("eye " + row[0], x.holds(3), row[1]);
        }
        x.days(4);
        due("behind 201 is too late", x.holds(3), NONE);
        x.days(1);
        due("behind 200 will do", x.holds(3), 200);
        says("MEETS of two: behind how many DAYS (0 .. 200) both are in one YARD first");
        for (int yard = 0; yard < 6; yard++) {
            GooseCounty y = one(GANDER, 0, 0, yard);
            y.goose(GOOSE, 0, 0, 5);
            y.goose(MYOPIC, 0, 0, 5);
            due("gander and goose", y.meets(0, 1), 5 - yard);
            due("goose and gander", y.meets(1, 0), 5 - yard);
            due("gander and myopic", y.meets(0, 2), (yard + 1) % 6);
            y.turns(0, EGG);
            due("two that stay", y.meets(0, 1), yard == 5 ? 0 : NONE);
        }
    }

    private static void placeAndBecomes() {
        says("the YARD in which it had best be now, so that HELD is most behind n DAYS; of several the least");
        GooseCounty x = one(GOOSE, 60, 0, 2);
        due("all are alike behind six days", x.place(0, 6, 0), 0);
        due("the first day's yard", x.place(0, 1, 0), 0);
        x.days(5);
        due("yard 5 is next", x.place(0, 1, 0), 5);
        due("yards 0 and 5 are alike", x.place(0, 2, 0), 0);
        due("nowhere is better", x.place(0, 2, 1), 1 + x.county(0));
        x.needs(5, 3);
        due("it does not do in 5", x.place(0, 1, 0), 0);
        due("it is where it was", x.told(0, 3), 2);
        says("the KIND of which it had best be from now on, likewise; of several the least");
        GooseCounty y = one(EGG, 60, 0, 0);
        due("a goose will do", y.becomes(0, 1, 0), GOOSE);
        y.needs(0, 1);
        due("goose, gander: the least", y.becomes(0, 1, 0), GOOSE);
        y.needs(0, 3);
        due("sleeper, abroad: the least", y.becomes(0, 1, 0), SLEEPER);
        y.needs(0, 4);
        due("none will do", y.becomes(0, 1, 0), GOOSE);
        due("none is held", y.becomes(0, 1, 1), 0);
        y.rule(0, 1);
        due("only the last kind", y.becomes(0, 1, 0), EGG);
        y.rule(0, 61);
        y.needs(0, 3);
        y.days(1);
        y.set(0, 3, 1);
        due("on an odd day", y.becomes(0, 1, 0), SLEEPER);
        due("it is what it was", y.told(0, 0), EGG);
    }

    private static void eyes() {
        says("EYES for n, v: the greatest EYE (0 .. 99) with which, were it that from now on, HELD is v or more behind n DAYS");
        GooseCounty x = one(GOOSE, 99, 0, 0);
        due("the most that there is", x.eyes(1, 1), 99);
        x.set(0, 1, 98);
        due("one less", x.eyes(1, 1), 98);
        x.set(0, 1, 0);
        due("the least", x.eyes(1, 1), 0);
        x.needs(0, 3);
        due("with none", x.eyes(1, 1), NONE);
        due("held is 0 or more", x.eyes(1, 0), 99);
        x.needs(0, 2);
        x.rule(0, 0);
        x.strike(0);
        x.strike(0);
        due("just held, without a day", x.eyes(0, 2), 99);
        due("more than asked for", x.eyes(0, 1), 99);
        due("one more, without a day", x.eyes(0, 3), NONE);
        due("one more, by a day", x.eyes(1, 3), 0);
        due("two more, by seven", x.eyes(7, 4), 0);
        due("not by six", x.eyes(6, 4), NONE);
        due("eye stays", x.count(2), 0);
        GooseCounty y = one(EGG, 0, 0, 0);
        y.needs(0, 3);
        due("count is more than the need", y.eyes(1, 1), 1);
    }

    private static void like() {
        says("SAW behind k DAYS and places k that are numbers (k from 0 on) differ least (signs left out), together; of several the least");
        GooseCounty x = one(GOOSE, 60, 0, 0);
        x.goose(GOOSE, 60, 0, 1);
        x.goose(EGG, 60, 0, 2);
        x.set(2, 4, 9999);
        x.sheet(0, 1, 1);
        due("place 0 is before any day", x.like(0, 1), 0);
        due("of two the least", x.like(0, 0), 0);
        x.mark(0, 0, 5000);
        due("one below, one above: the least differ", x.like(0, 0), 2);
        due("signs left out", x.like(0, 1), 4999);
        x.set(1, 4, 4990);
        due("the one between", x.like(0, 0), 1);
        due("by 10", x.like(0, 1), 10);
        x.set(2, 4, 5010);
        due("as much, above: the least", x.like(0, 0), 1);
        x.set(1, 4, 0);
        x.set(2, 4, 9999);
        x.mark(0, 0, -99999);
        due("far below", x.like(0, 1), 99999);
        x.sheet(0, 1, 24);
        for (int k = 0; k < 24; k++) {
            x.mark(0, k, k < 23 ? NONE : 4);
        }
        due("the last place alone: behind 23 days", x.like(0, 0), 0);
        due("day 0, 6, 12, 18 were seen", x.like(0, 1), 0);
        x.mark(0, 23, NONE);
        due("no numbers", x.like(0, 0), 0);
        due("no numbers", x.like(0, 1), 0);
        for (int k = 0; k < 24; k++) {
            x.mark(0, k, 99999);
        }
        due("the most that can differ goes in", x.like(0, 1), 24 * 90000);
        due("by the egg that has seen most", x.like(0, 0), 2);
        x.mark(0, 0, 0);
        due("days are thought", x.count(1), 0);
    }

    // ---- part 4

    private static void manyTexts() {
        says("TEXTS, 14 at most, numbered from 0");
        GooseCounty x = new GooseCounty();
        for (int t = 0; t < 14; t++) {
            due("number", law(x, "fee 1"), t);
        }
        due("fifteenth", law(x, "fee 2"), FULL);
        due("fourteen", x.count(4), 14);
        due("the old one counts", x.fee(), 1);
        due("the last is told", x.textTold(13, 1), 1);
        due("behind it is none", x.textTold(14, 1), BAD);
        says("THE TAPE (96 bytes at most; an act that reads it uses it up, whatever it answers)");
        due("used up by FULL", x.count(6), 0);
        type(x, "fee");
        x.text();
        due("used up by a fault", x.count(6), 0);
        GooseCounty y = new GooseCounty();
        due("ninety-six bytes", law(y, "fee" + " ".repeat(92) + "7"), 0);
        due("its last byte counts", y.fee(), 7);
        due("used up", y.count(6), 0);
        type(y, "fee" + " ".repeat(93));
        due("the end of a full tape", y.text(), -196);
        type(y, "fee" + " ".repeat(92) + "g");
        due("the last byte of a full tape", y.text(), -195);
        type(y, " ".repeat(96));
        due("all blanks", y.text(), -196);
        due("no bytes", y.text(), -100);
    }

    private static void numbers() {
        says("NUMBER (1 to 4 digits)");
        fee("0", 0);
        fee("9", 9);
        fee("9999", 9999);
        fee("0000", 0);
        fee("0007", 7);
        fault("fee 10000", 4);
        fault("fee 00000", 4);
        fault("fee 1+12345", 6);
        says("without a TEXT: HELD");
        GooseCounty x = one(GOOSE, 60, 0, 0);
        x.strike(0);
        x.strike(0);
        x.strike(1);
        due("fee", x.fee(), 2);
        due("fee of a text", law(x, "fee b") == 0 ? x.fee() : -1, 1);
        says("without a TEXT: SIGHT");
        due("fine", x.fine(0), 60);
        due("fine of a text", law(x, "fine s") == 1 ? x.fine(0) : -1, 2);
        due("of one that is not", x.fine(1), BAD);
    }

    private static void names() {
        says("NAMES, each one letter: of look g SIGHT, a AGE, y NEED of its YARD, n how many GEESE are in that");
        String[] keys = {"look ", "fee ", "fine "};
        String[] names = {"gayn", "hb", "gs"};
        for (int key = 0; key < 3; key++) {
            for (char letter = 'a'; letter <= 'z'; letter++) {
                if (names[key].indexOf(letter) >= 0) {
                    due(keys[key] + letter, law(new GooseCounty(), keys[key] + letter), 0);
                } else {
                    fault(keys[key] + letter, keys[key].length());
                }
            }
        }
        fault("look gg", 5);
        fault("fee hb", 4);
        fault("fine G", 5);
        GooseCounty x = one(GOOSE, 13, 5, 1);
        x.goose(GOOSE, 1, 1, 1);
        x.goose(GOOSE, 1, 1, 2);
        x.needs(1, 50);
        String[] laws = {"look g", "look a", "look y", "look n"};
        int[] sees = {13, 5, 50, 2};
        for (int i = 0; i < 4; i++) {
            law(x, laws[i]);
            due(laws[i], x.told(0, 5), sees[i]);
        }
    }

    private static void words() {
        says("A word is a row of letters a .. z, or of digits, as long as it goes; any other byte is a sign by itself");
        fault("fee `", 4);
        fault("fee {", 4);
        fault("fee :", 4);
        fault("fee h:", 5);
        fault("fee h`", 5);
        fault("fee h{", 5);
        fault("fee 1:", 5);
        fault("fee h" + (char) 0, 5);
        fault("fee h" + (char) 31, 5);
        fault("fee h" + (char) 33, 5);
        fault("fee h" + (char) 127, 5);
        fault("fee h" + (char) 128, 5);
        fault("fee h" + (char) 160, 5);
        fault("fee h" + (char) 255, 5);
        fault("fee h" + (char) (32 + 128), 5);
        fault((char) 255 + "fee h", 0);
        fault("FEE h", 0);
        fault("feeh", 0);
        fault("feea h", 0);
        fault("feez h", 0);
        fault("bee h", 0);
        fault("hook g", 0);
        fault("wine g", 0);
        fault("fe e h", 0);
        fault("f", 0);
        fault("looks g", 0);
        fault("fines g", 0);
        fault("fin g", 0);
        says("Between words and signs, and at the ends, there may be blanks (byte 32); a word right behind another one needs one");
        fee("  ( 1  + 2 )  *  3  ", 9);
        due("blanks ahead", law(new GooseCounty(), "   fee h"), 0);
        due("no blank needed ahead of a sign", law(new GooseCounty(), "fee(h)"), 0);
        due("no blank needed ahead of a sign", law(new GooseCounty(), "fine!g"), 0);
        due("one blank", law(new GooseCounty(), "fee 5"), 0);
        fault("fee5", 3);
        fault("look5 + g", 4);
        fault("fee 5h", 5);
        fault("fee h5", 5);
        fault("fee (5h)", 6);
        fault("fee\th", 3);
        fault("fee\nh", 3);
    }

    private static void faults() {
        says("FAULT: the first byte of the first word or sign with which no TEXT goes on");
        fault("fee h h", 6);
        fault("fee h hh", 6);
        fault("fee h 5", 6);
        fault("fee h (", 6);
        fault("fee h !", 6);
        fault("fee h )", 6);
        fault("fee )", 4);
        fault("fee ()", 5);
        fault("fee (h))", 7);
        fault("fee *h", 4);
        fault("fee h+*h", 6);
        fault("fee h=h=h", 7);
        fault("fee h<h>h", 7);
        fault("fee (h=h)=h=h", 11);
        fault("fee (h<h<h)", 8);
        fault("fee h&&h", 6);
        fault("fee fee", 4);
        fault("h", 0);
        fault("5", 0);
        fault("(", 0);
        fee("(1=1)=1", 1);
        fee("1=1&1=1|1=1", 1);
        says("the end (the place behind the last byte), if it comes too soon");
        fault("", 0);
        fault(" ", 1);
        fault("fee", 3);
        fault("fee   ", 6);
        fault("fee (", 5);
        fault("fee (h", 6);
        fault("fee (h  ", 8);
        fault("fee !", 5);
        fault("fee h|", 6);
        fault("fee h&", 6);
        fault("fee h<", 6);
        fault("fee h-", 6);
        fault("fee h/  ", 8);
    }

    private static void deep() {
        says("the ninth ( that would be open within others, the ninth ! likewise, each by itself");
        fee("(".repeat(8) + "7" + ")".repeat(8), 7);
        fault("fee " + "(".repeat(9) + "7" + ")".repeat(9), 12);
        fault("fee ((" + "(7)+".repeat(3) + "(".repeat(7), 24);
        fee("(".repeat(8) + "7" + ")".repeat(8) + "+" + "(".repeat(8) + "7" + ")".repeat(8), 14);
        fee("(1)+".repeat(12) + "(1)", 13);
        fee("!".repeat(8) + "7", 1);
        fault("fee " + "!".repeat(9) + "7", 12);
        fault("fee " + "! ".repeat(9) + "7", 20);
        fee("!".repeat(8) + "7+" + "!".repeat(8) + "7", 2);
        fee("!0+".repeat(12) + "!0", 13);
        fee("!(".repeat(8) + "7" + ")".repeat(8), 1);
        fee("(!".repeat(8) + "7" + ")".repeat(8), 1);
        fault("fee " + "!(".repeat(8) + "!7" + ")".repeat(8), 20);
        fault("fee " + "(!".repeat(8) + "(7)" + ")".repeat(8), 20);
        fault("fee !!!!!!!!(1+!1)", 15);
        fee("!!!!!!!!(1)+!1", 1);
        fee("((((((((1))))))))+(1)", 2);
        fee("(((((((!(1))))))))", 0);
    }

    private static void values() {
        says("Ints wrap; / is 0 by 0; tests, & | ! give 1 or 0 (what is not 0 is true; both sides are worked out)");
        fee("9999*9999*21+9999*4756+9999+100", 9999 * 9999 * 21 + 9999 * 4756 + 9999 + 100);
        String top = "(8192*8*8192*4)";
        fee(top, MIN);
        fee(top + "-1", MAX);
        fee(top + "/(0-1)", MIN);
        fee(top + "*(0-1)", MIN);
        fee("0-" + top, MIN);
        fee("7/0", 0);
        fee("0/0", 0);
        fee("(0-7)/0", 0);
        fee("7/h", 0);
        fee("7/(1-1)+3", 3);
        fee("1<2", 1);
        fee("2<2", 0);
        fee("3<2", 0);
        fee("1=2", 0);
        fee("2=2", 1);
        fee("3>2", 1);
        fee("2>2", 0);
        fee("1>2", 0);
        fee(top + "<0", 1);
        fee(top + ">1", 0);
        fee("5&3", 1);
        fee("5&0", 0);
        fee("0&5", 0);
        fee("0&0", 0);
        fee("(0-1)&2", 1);
        fee("5|0", 1);
        fee("0|5", 1);
        fee("0|0", 0);
        fee("6|3", 1);
        fee("!0", 1);
        fee("!1", 0);
        fee("!(0-1)", 0);
        fee("1|7/0", 1);
        fee("0&7/0", 0);
        says("E, the loosest first");
        fee("1|1&0", 1);
        fee("0&1|1", 1);
        fee("1&2=2", 1);
        fee("3=1+2", 1);
        fee("1+2*3", 7);
        fee("8-4-2", 2);
        fee("8/4/2", 1);
        fee("8/4*2", 4);
        fee("!1*5+2", 2);
        says("Of a KEY that TEXT counts that was told last");
        GooseCounty x = new GooseCounty();
        due("none yet", x.why(1), NONE);
        law(x, "fee 1");
        law(x, "fine 2");
        law(x, "fee 3");
        due("the last", x.why(1), 2);
        due("the last", x.fee(), 3);
        law(x, "fee g");
        due("a fault is no text", x.fee(), 3);
        law(x, "look 4");
        due("another key", x.why(1), 2);
        due("its own", x.why(0), 3);
    }

    // ---- part 5

    private static void sheets() {
        says("SHEETS 0 .. 3 are rows of shorts (sort 0) or floats (1; whole numbers), with 0 to 24 places, or MISSING (at first)");
        GooseCounty x = new GooseCounty();
        for (int sheet = 0; sheet < 4; sheet++) {
            due("missing at first", x.reads(sheet), NOTHING);
            for (int sort = 0; sort < 2; sort++) {
                due("no places", x.sheet(sheet, sort, 0), 0);
                due("none to mark", x.mark(sheet, 0, 1), INDEX);
                due("24 places", x.sheet(sheet, sort, 24), 24);
                due("the last", x.mark(sheet, 23, 1), 1);
                due("behind it", x.mark(sheet, 24, 1), INDEX);
                due("25 places", x.sheet(sheet, sort, 25), BAD);
                due("fewer than none", x.sheet(sheet, sort, -1), SIZE);
            }
        }
        due("ahead of the first", x.sheet(-1, 0, 1), BAD);
        due("behind the last", x.sheet(4, 0, 1), BAD);
        says("A place of floats may be NO NUMBER");
        due("of floats", x.mark(0, 0, NONE), 1);
        x.lay(0, 2, 0);
        due("no number", x.item(0, 0), KIND);
        x.sheet(0, 0, 1);
        due("of shorts", x.mark(0, 0, NONE), KIND);
    }

    private static void slots() {
        says("SLOTS 0 .. 4 each hold nothing (at first), a GOOSE (as it is then, for good), a SHEET (a row of its own, as it was then), or a number");
        GooseCounty x = one(GANDER, 40, 3, 0);
        for (int slot = 0; slot < 5; slot++) {
            due("nothing at first", x.ask(slot, 0), NOTHING);
            due("nothing at first", x.item(slot, 0), NOTHING);
            due("nothing at first", x.rest(slot, 1), NOTHING);
            due("a number", x.lay(slot, 3, slot), 0);
        }
        for (int slot = 0; slot < 5; slot++) {
            due("each its own", x.rest(slot, 100), slot);
        }
        due("ahead of the first", x.lay(-1, 3, 1), BAD);
        due("behind the last", x.lay(5, 3, 1), BAD);
        x.lay(0, 1, 0);
        x.set(0, 1, 90);
        x.set(0, 4, 9);
        x.turns(0, EGG);
        due("as it is then", x.ask(0, GANDER), 40);
        due("of that kind for good", x.ask(0, EGG), KIND);
        x.keep();
        x.back();
        x.days(5);
        due("for good", x.ask(0, GOOSE), 40);
        x.sheet(0, 0, 2);
        x.mark(0, 1, 6);
        x.lay(1, 2, 0);
        x.lay(2, 2, 0);
        x.mark(0, 1, 7);
        x.lay(2, 2, 0);
        x.sheet(0, 1, 1);
        due("as it was then", x.item(1, 1), 6);
        due("as it was then", x.item(2, 1), 7);
        due("with its places", x.item(1, 2), INDEX);
        x.sheet(0, -1, 0);
        due("a row of its own", x.item(1, 1), 6);
    }

    private static void images() {
        says("AN IMAGE keeps all but SHEETS, SLOTS, numbers that wait, THE TAPE; all can become as it is (again and again)");
        GooseCounty x = six();
        x.rule(1, 100);
        x.days(3);
        law(x, "fee h+b*100");
        law(x, "look g");
        x.needs(5, 9);
        x.rule(0, 31);
        due("kept", x.keep(), 6);
        int[] was = all(x);
        for (int again = 1; again <= 3; again++) {
            x.deal(again);
            x.turns(0, EGG);
            x.needs(5, 8);
            x.rule(0, 32);
            x.rule(1, 50);
            x.seed(5);
            law(x, "fee 0");
            law(x, "fine 0");
            for (int what = 1; what < 5; what++) {
                x.set(1, what, 4);
            }
            x.strike(0);
            x.strike(5);
            x.days(9);
            x.sheet(3, 1, 4);
            x.mark(3, 3, 77);
            x.lay(4, 3, 30 + again);
            x.tell(1);
            type(x, "f");
            due("back", x.back(), 6);
            int[] is = all(x);
            for (int i = 0; i < was.length; i++) {
                due("answer " + i + " as it was", is[i], was[i]);
            }
            due("waiting numbers stay", x.count(5), again);
            due("the tape stays", x.count(6), 1);
            due("it was not read", x.text(), -100);
            due("slots stay", x.rest(4, 1000), 30 + again);
            x.lay(0, 2, 3);
            due("sheets stay", x.item(0, 3), 77);
        }
        says("THE DAYS TOLD: of n DAYS, one behind the other, by THE IMAGE: HELD; SAW of all, together, behind each");
        GooseCounty y = one(GOOSE, 60, 0, 0);
        y.goose(GOOSE, 60, 0, 0);
        y.keep();
        y.days(50);
        for (int v : new int[] {1, 2, 1, 2, 1, 2, 1, 2, 1, 2, 1, 2, 2, 4}) {
            y.tell(v);
        }
        due("from the image on", y.check(7), 0);
    }

    private static int[] all(GooseCounty x) {
        int[] found = new int[90];
        int n = 0;
        for (int what = 0; what < 8; what++) {
            found[n++] = what == 5 || what == 6 ? 0 : x.count(what);
            found[n++] = x.county(what);
        }
        for (int g = 0; g < 10; g++) {
            for (int what = 0; what < 5; what++) {
                found[n++] = x.told(g, what);
            }
        }
        for (int yard = 0; yard < 6; yard++) {
            found[n++] = x.yardOf(yard, 0);
        }
        for (int key = 0; key < 3; key++) {
            found[n++] = x.why(key);
            found[n++] = x.textTold(key, 0);
        }
        found[n++] = x.fee();
        return found;
    }

    public static void main(String[] args) {
        wholeNumbers();
        sets();
        yards();
        tenGeese();
        traits();
        kinds();
        rules();
        counters();
        theDay();
        plainLook();
        seesByKind();
        seesAbroad();
        tallyWanderWorth();
        witnesses();
        bargains();
        yardOfTheDay();
        wandering();
        ageing();
        fox();
        draws();
        eldest();
        drive();
        withoutTheBound();
        holdsAndMeets();
        placeAndBecomes();
        eyes();
        like();
        manyTexts();
        numbers();
        names();
        words();
        faults();
        deep();
        values();
        sheets();
        slots();
        images();
        end("the terms hold at their boundaries");
    }
}
