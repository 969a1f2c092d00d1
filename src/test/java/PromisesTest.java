/** Each promise of the document by itself: ordinary calls, the edges that it names, wrong calls. */
public final class PromisesTest extends Trial {
    private static void newObject() {
        GooseCounty x = new GooseCounty();
        int[] counts = {0, 0, 20, 0, 0, 0, 0, 1};
        for (int what = 0; what < 8; what++) {
            due("new count " + what, x.count(what), counts[what]);
        }
        for (int yard = 0; yard < 6; yard++) {
            due("new need", x.yardOf(yard, 0), 2);
            due("new count of a yard", x.yardOf(yard, 1), 0);
        }
        for (int what = 0; what < 6; what++) {
            due("new county " + what, x.county(what), 0);
        }
        for (int sheet = 0; sheet < 4; sheet++) {
            due("new sheet", x.pour(sheet), NOTHING);
        }
        for (int slot = 0; slot < 5; slot++) {
            due("new slot", x.rest(slot, 1), NOTHING);
        }
        due("new image", x.back(), NO);
    }

    private static void goose() {
        GooseCounty x = new GooseCounty();
        due("goose", x.goose(EGG, 99, 99, 5), 0);
        due("goose", x.goose(GOOSE, 0, 0, 0), 1);
        int[][] bad = {{-1, 0, 0, 0}, {6, 0, 0, 0}, {0, -1, 0, 0}, {0, 100, 0, 0}, {0, 0, -1, 0}, {0, 0, 100, 0},
            {0, 0, 0, -1}, {0, 0, 0, 6}, {MIN, 0, 0, 0}, {0, MAX, 0, 0}};
        for (int[] b : bad) {
            due("bad goose", x.goose(b[0], b[1], b[2], b[3]), BAD);
        }
        for (int i = 2; i < 10; i++) {
            due("goose", x.goose(GANDER, i, i, 1), i);
        }
        due("eleventh", x.goose(GANDER, 1, 1, 1), FULL);
        due("bad eleventh", x.goose(6, 1, 1, 1), BAD);
        due("geese", x.count(0), 10);
    }

    private static void told() {
        GooseCounty x = six();
        int[] sees = {50, 50, 50, 16, 50, 1};
        int[] seesOdd = {50, 50, 99, 16, 99, 1};
        int[] wanders = {0, 1, 0, 2, 3, 0};
        int[] tallies = {2, 1, 3, -2, 3, 4};
        int[] worth = {60, 67, 79, 33, 84, 7};
        for (int g = 0; g < 6; g++) {
            due("set saw", x.set(g, 4, 7), 0);
            due("kind", x.told(g, 0), g);
            due("sight", x.told(g, 1), 60);
            due("age", x.told(g, 2), 20);
            due("yard", x.told(g, 3), g);
            due("saw", x.told(g, 4), 7);
            due("sees", x.told(g, 5), sees[g]);
            due("wanders", x.told(g, 6), wanders[g]);
            due("tallies", x.told(g, 7), tallies[g]);
            due("worth", x.told(g, 8), worth[g]);
            due("told 9", x.told(g, 9), BAD);
            due("told -1", x.told(g, -1), BAD);
        }
        due("told of none", x.told(6, 0), BAD);
        due("told of none", x.told(-1, 0), BAD);
        due("told of none", x.told(MIN, MAX), BAD);
        x.rule(0, 99);
        x.days(1);
        for (int g = 0; g < 6; g++) {
            x.set(g, 3, g);
            due("sees on an odd day", x.told(g, 5), seesOdd[g]);
        }
        for (int g = 0; g < 6; g++) {
            x.set(g, 3, 4);
            due("one abroad among others", x.told(4, 5), 99 - 9 * (g < 4 ? g + 1 : g));
        }
        x.days(1);
        x.set(4, 1, 12);
        for (int g = 0; g < 6; g++) {
            x.set(g, 3, 4);
        }
        due("abroad sees 0 at least", x.told(4, 5), 0);
        x.set(0, 1, 5);
        x.set(0, 2, 99);
        due("plain look 0 at least", x.told(0, 5), 0);
        x.set(0, 1, 99);
        x.set(0, 2, 1);
        due("half of 1 is cut", x.told(0, 5), 99);
    }

    private static void as() {
        GooseCounty x = six();
        String[] under = {"0", "01", "02", "013", "024", "05"};
        for (int g = 0; g < 6; g++) {
            for (int kind = 0; kind < 6; kind++) {
                due("goose " + g + " as " + kind, x.as(g, kind), under[g].indexOf((char) ('0' + kind)) >= 0 ? 60 : KIND);
            }
            due("as 6", x.as(g, 6), BAD);
            due("as -1", x.as(g, -1), BAD);
        }
        due("as of none", x.as(6, 0), BAD);
        due("as of none", x.as(-1, 0), BAD);
    }

    private static void turns() {
        GooseCounty x = six();
        due("turns", x.turns(0, EGG), GOOSE);
        due("kind", x.told(0, 0), EGG);
        due("sees", x.told(0, 5), 1);
        due("turns to what it is", x.turns(0, EGG), EGG);
        due("turns to none", x.turns(0, 6), BAD);
        due("turns to none", x.turns(0, -1), BAD);
        due("none turns", x.turns(6, 0), BAD);
        due("none turns", x.turns(-1, 0), BAD);
        due("kind stays", x.told(0, 0), EGG);
    }

    private static void set() {
        GooseCounty x = six();
        int[] was = {0, 60, 20, 2, 0};
        int[] most = {0, 99, 99, 5, 9999};
        for (int what = 1; what < 5; what++) {
            due("set", x.set(2, what, most[what]), was[what]);
            due("set above", x.set(2, what, most[what] + 1), BAD);
            due("set below", x.set(2, what, -1), BAD);
            due("as set", x.told(2, what), most[what]);
            due("set to 0", x.set(2, what, 0), most[what]);
        }
        due("set 0", x.set(2, 0, 1), BAD);
        due("set 5", x.set(2, 5, 1), BAD);
        due("set -1", x.set(2, -1, 1), BAD);
        due("set of none", x.set(6, 1, 1), BAD);
        due("set of none", x.set(-1, 1, 1), BAD);
    }

    private static void yards() {
        GooseCounty x = six();
        due("needs", x.needs(3, 99), 2);
        due("needs", x.needs(3, 0), 99);
        due("needs", x.needs(3, -1), BAD);
        due("needs", x.needs(3, 100), BAD);
        due("needs", x.needs(-1, 1), BAD);
        due("needs", x.needs(6, 1), BAD);
        due("need", x.yardOf(3, 0), 0);
        due("blind count", x.yardOf(3, 1), 0);
        due("in it", x.yardOf(3, 2), 8);
        due("no witnesses", x.yardOf(3, 3), 0);
        due("needs none", x.yardOf(3, 4), 1);
        x.rule(0, 16);
        due("witness at just the eye", x.yardOf(3, 3), 8);
        due("count below 0", x.yardOf(3, 1), -2);
        due("below 0 is less than 0", x.yardOf(3, 4), 0);
        x.set(2, 3, 3);
        due("count", x.yardOf(3, 1), 1);
        due("in it", x.yardOf(3, 2), 12);
        due("witnesses", x.yardOf(3, 3), 12);
        due("holds", x.yardOf(3, 4), 1);
        x.needs(3, 1);
        due("holds at just the need", x.yardOf(3, 4), 1);
        x.needs(3, 2);
        due("less than the need", x.yardOf(3, 4), 0);
        due("yardOf", x.yardOf(3, 5), BAD);
        due("yardOf", x.yardOf(3, -1), BAD);
        due("yardOf", x.yardOf(-1, 0), BAD);
        due("yardOf", x.yardOf(6, 0), BAD);
    }

    private static void rule() {
        GooseCounty x = new GooseCounty();
        due("eye", x.rule(0, 99), 20);
        due("eye", x.rule(0, 0), 99);
        due("eye", x.rule(0, 100), BAD);
        due("eye", x.rule(0, -1), BAD);
        due("fox", x.rule(1, 100), 0);
        due("fox", x.rule(1, 101), BAD);
        due("fox", x.rule(1, -1), BAD);
        due("rule", x.rule(2, 0), BAD);
        due("rule", x.rule(-1, 0), BAD);
        due("eye", x.count(2), 0);
        due("fox", x.count(3), 100);
    }

    private static void deal() {
        GooseCounty x = new GooseCounty();
        int z = 1;
        due("deal", x.deal(2), 2);
        for (int g = 0; g < 2; g++) {
            int[] by = {6, 100, 40, 6};
            for (int what = 0; what < 4; what++) {
                z = z * 1103515245 + 12345;
                due("drawn " + what, x.told(g, what), (z >>> 8) % by[what]);
            }
            due("drawn saw", x.told(g, 4), 0);
        }
        due("z", x.count(7), z);
        due("deal 0", x.deal(0), BAD);
        due("deal 11", x.deal(11), BAD);
        due("deal", x.deal(10), 8);
        for (int i = 0; i < 32; i++) {
            z = z * 1103515245 + 12345;
        }
        due("no draws for others", x.count(7), z);
        due("deal", x.deal(10), 0);
        due("no draws", x.count(7), z);
    }

    private static void seed() {
        GooseCounty x = new GooseCounty();
        due("seed", x.seed(MIN), 1);
        due("seed", x.seed(-1), MIN);
        due("seed", x.count(7), -1);
        x.days(1);
        due("one draw a day", x.count(7), -1103515245 + 12345);
    }

    private static void drive() {
        GooseCounty x = six();
        due("who is there will do", x.drive(0, 0), 0);
        due("none is driven", x.drive(0, 1), 0);
        due("one of several, the least", x.drive(5, 0), 1);
        x.needs(5, 3);
        due("one that tallies 3", x.drive(5, 0), 4);
        x.needs(5, 6);
        due("two sleepers", x.drive(5, 0), 20);
        due("two", x.drive(5, 1), 2);
        x.needs(5, 8);
        due("three", x.drive(5, 0), 21);
        due("three", x.drive(5, 1), 3);
        x.needs(5, 9);
        due("by none", x.drive(5, 0), NONE);
        due("by none", x.drive(5, 1), NONE);
        x.rule(0, 16);
        x.needs(3, 1);
        due("a myopic one is in the way", x.drive(3, 0), 4);
        x.rule(0, 40);
        x.needs(4, 6);
        due("one abroad sees one other", x.drive(4, 0), 4);
        x.rule(0, 42);
        due("but not then", x.drive(4, 0), 7);
        x.needs(4, 5);
        due("without it", x.drive(4, 0), 5);
        due("drive", x.drive(-1, 0), BAD);
        due("drive", x.drive(6, 0), BAD);
        due("drive", x.drive(0, -1), BAD);
        due("drive", x.drive(0, 2), BAD);
        due("nobody moved", x.told(2, 3), 2);
        GooseCounty y = new GooseCounty();
        due("nobody to drive", y.drive(0, 0), NONE);
        y.needs(0, 0);
        due("nobody needed", y.drive(0, 0), 0);
        law(y, "look n * 10 + y");
        y.goose(GOOSE, 0, 0, 1);
        y.goose(GOOSE, 0, 0, 1);
        y.goose(GOOSE, 0, 0, 1);
        y.needs(0, 1);
        y.rule(0, 30);
        due("look hangs on how many come", y.drive(0, 0), 7);
        y.rule(0, 21);
        due("and on the need there", y.drive(0, 0), 3);
    }

    private static void strike() {
        GooseCounty x = six();
        due("strike", x.strike(0), 1);
        due("held", x.county(0), 1);
        due("saw", x.told(0, 4), 1);
        due("who was not there", x.told(2, 4), 0);
        due("strike", x.strike(1), 0);
        due("broken", x.county(1), 1);
        due("saw it break", x.told(1, 4), 0);
        x.set(0, 4, 9999);
        due("strike", x.strike(0), 1);
        due("saw 9999 at most", x.told(0, 4), 9999);
        x.set(3, 3, 0);
        due("strike", x.strike(0), 1);
        due("in it, but no witness", x.told(3, 4), 0);
        due("strike", x.strike(-1), BAD);
        due("strike", x.strike(6), BAD);
        due("held", x.county(0), 3);
        due("no day has gone", x.count(1), 0);
        due("no draw", x.count(7), 1);
    }

    private static void days() {
        GooseCounty x = six();
        due("days", x.days(6), 4);
        int[] yards = {0, 1, 2, 3, 4, 5};
        for (int g = 0; g < 6; g++) {
            due("round the yards", x.told(g, 3), yards[g]);
            due("a day older", x.told(g, 2), 21);
        }
        due("days", x.count(1), 6);
        due("days 0", x.days(0), BAD);
        due("days 101", x.days(101), BAD);
        due("days -1", x.days(-1), BAD);
        x.days(1);
        int[] next = {0, 2, 2, 5, 1, 5};
        for (int g = 0; g < 6; g++) {
            due("a day on", x.told(g, 3), next[g]);
        }
        x.set(0, 2, 99);
        x.days(5);
        due("99 at most", x.told(0, 2), 99);
        for (int i = 0; i < 99; i++) {
            x.days(100);
        }
        due("days", x.count(1), 9912);
        x.days(100);
        due("9999 at most", x.count(1), 9999);
        int z = x.count(7);
        due("no more days", x.days(100), 0);
        due("no more draws", x.count(7), z);
        due("still thought", x.behind(100, 1) > x.county(1) ? 1 : 0, 1);
    }

    private static void fox() {
        GooseCounty x = six();
        for (int g = 0; g < 6; g++) {
            x.set(g, 4, 50);
        }
        x.rule(1, 100);
        x.rule(0, 99);
        x.days(1);
        int z = 1103515245 + 12345;
        z = z * 1103515245 + 12345;
        int one = (z >>> 8) % 6;
        for (int g = 0; g < 6; g++) {
            due("age behind the fox", x.told(g, 2), g == one ? 0 : 20);
            due("saw behind the fox", x.told(g, 4), g == one ? 0 : 50);
        }
        due("taken", x.county(2), 1);
        due("two draws", x.count(7), z);
        GooseCounty y = new GooseCounty();
        y.rule(1, 100);
        y.days(1);
        due("one draw without geese", y.count(7), 1103515245 + 12345);
        due("none taken", y.county(2), 0);
        y.goose(GOOSE, 9, 9, 0);
        y.days(1);
        due("the only one", y.told(0, 2), 0);
        due("taken", y.county(2), 1);
    }

    private static void county() {
        GooseCounty x = six();
        due("yards that hold", x.county(3), 1 | 4 | 16);
        due("age of all", x.county(4), 120);
        x.set(1, 4, 5);
        x.set(2, 4, 6);
        due("saw of all", x.county(5), 11);
        due("eldest, the least", x.county(6), 0);
        x.set(4, 2, 21);
        x.set(5, 2, 21);
        due("eldest", x.county(6), 4);
        due("county", x.county(7), BAD);
        due("county", x.county(-1), BAD);
        due("eldest of none", new GooseCounty().county(6), NONE);
    }

    private static void behind() {
        GooseCounty x = six();
        x.rule(1, 40);
        int[] first = new int[11];
        for (int what = 0; what < 11; what++) {
            first[what] = x.behind(37, what);
            due("behind 0", x.behind(0, what), what < 5 ? x.county(what) : x.told(what - 5, 4));
        }
        due("behind", x.behind(37, 11), BAD);
        due("behind", x.behind(37, -1), BAD);
        due("behind", x.behind(37, MAX), BAD);
        due("behind", x.behind(37, MIN), BAD);
        due("behind", x.behind(-1, 0), BAD);
        due("behind", x.behind(101, 0), BAD);
        due("z stays", x.count(7), 1);
        x.days(37);
        for (int what = 0; what < 11; what++) {
            due("it came so", what < 5 ? x.county(what) : x.told(what - 5, 4), first[what]);
        }
        due("no goose 0", new GooseCounty().behind(1, 5), BAD);
    }

    private static void holds() {
        GooseCounty x = new GooseCounty();
        x.goose(GANDER, 60, 0, 0);
        x.goose(GANDER, 60, 0, 0);
        due("holds now", x.holds(0), 0);
        due("holds then", x.holds(4), 4);
        due("holds", x.holds(-1), BAD);
        due("holds", x.holds(6), BAD);
        x.set(1, 3, 1);
        due("holds never", x.holds(4), NONE);
        x.turns(0, SLEEPER);
        x.turns(1, GOOSE);
        x.set(0, 3, 5);
        x.rule(0, 61);
        due("on an odd day", x.holds(5), 1);
        x.set(0, 3, 0);
        x.set(1, 3, 0);
        x.needs(0, 5);
        x.rule(0, 60);
        due("until age comes", x.holds(0), 0);
        x.rule(0, 61);
        due("one sleeps, one is blind", x.holds(0), NONE);
        GooseCounty y = new GooseCounty();
        law(y, "look a");
        y.goose(GOOSE, 0, 0, 0);
        y.rule(0, 40);
        due("behind 200 days", y.holds(0), 200);
        y.rule(0, 41);
        due("not by then", y.holds(0), NONE);
        due("the day is as it was", y.count(1), 0);
        y.days(4);
        due("behind 201 days is too late", y.holds(0), NONE);
        y.rule(0, 40);
        due("behind 196 days", y.holds(0), 196);
    }

    private static void meets() {
        GooseCounty x = six();
        due("ganders meet a goose", x.meets(1, 0), 5);
        due("the other way", x.meets(0, 1), 5);
        due("myopic", x.meets(3, 0), NONE);
        due("myopic", x.meets(3, 5), 1);
        due("abroad never meets this gander", x.meets(4, 1), NONE);
        x.set(4, 3, 5);
        due("but from another yard", x.meets(4, 1), 1);
        x.set(0, 3, 2);
        due("in one yard", x.meets(0, 2), 0);
        due("never", x.meets(0, 5), NONE);
        due("one and the same", x.meets(0, 0), BAD);
        due("none", x.meets(0, 6), BAD);
        due("none", x.meets(6, 0), BAD);
        due("none", x.meets(-1, 0), BAD);
        due("none", x.meets(0, -1), BAD);
    }

    private static void place() {
        GooseCounty x = new GooseCounty();
        x.goose(GOOSE, 60, 0, 5);
        due("place", x.place(0, 1, 0), 0);
        due("held there", x.place(0, 1, 1), 1);
        due("of several the least", x.place(0, 60, 0), 0);
        due("held there", x.place(0, 60, 1), 10);
        x.turns(0, GANDER);
        due("a gander is never enough", x.place(0, 60, 0), 0);
        due("nothing held", x.place(0, 60, 1), 0);
        x.needs(0, 1);
        x.needs(2, 1);
        x.days(1);
        due("a gander to be in 2 on day 2", x.place(0, 2, 0), 1);
        x.needs(5, 0);
        due("a need of 0 is always held", x.place(0, 5, 1), 2);
        due("it stays where it was", x.told(0, 3), 0);
        for (int n : new int[] {0, 61, -1, MIN, MAX}) {
            due("place", x.place(0, n, 0), BAD);
            due("becomes", x.becomes(0, n, 0), BAD);
        }
        due("place", x.place(1, 1, 0), BAD);
        due("place", x.place(-1, 1, 0), BAD);
        due("place", x.place(0, 1, 2), BAD);
        due("place", x.place(0, 1, -1), BAD);
    }

    private static void becomes() {
        GooseCounty x = new GooseCounty();
        x.goose(EGG, 60, 0, 0);
        due("becomes", x.becomes(0, 1, 0), GOOSE);
        due("held then", x.becomes(0, 1, 1), 1);
        x.needs(0, 3);
        due("becomes", x.becomes(0, 1, 0), SLEEPER);
        x.needs(0, 4);
        due("nothing will do", x.becomes(0, 1, 0), GOOSE);
        due("nothing held", x.becomes(0, 1, 1), 0);
        x.rule(0, 1);
        due("an egg", x.becomes(0, 1, 0), EGG);
        due("an egg, each six days", x.becomes(0, 60, 1), 10);
        due("it stays what it was", x.told(0, 0), EGG);
        x.strike(0);
        due("held already counts", x.becomes(0, 60, 1), 11);
        due("becomes", x.becomes(1, 1, 0), BAD);
        due("becomes", x.becomes(-1, 1, 0), BAD);
        due("becomes", x.becomes(0, 1, 2), BAD);
        due("becomes", x.becomes(0, 1, -1), BAD);
    }

    private static void eyes() {
        GooseCounty x = new GooseCounty();
        x.goose(GOOSE, 60, 0, 0);
        due("eyes", x.eyes(1, 1), 60);
        due("eyes", x.eyes(1, 2), NONE);
        due("eyes for no days", x.eyes(0, 0), 99);
        due("eyes for no days", x.eyes(0, 1), NONE);
        due("the second time it is older", x.eyes(7, 2), 60);
        due("the third time more so", x.eyes(13, 3), 59);
        x.goose(MYOPIC, 90, 0, 0);
        due("a myopic one must not see it", x.eyes(1, 1), 60);
        x.set(0, 1, 30);
        due("sharper than both", x.eyes(1, 1), NONE);
        x.set(0, 1, 31);
        due("between the two", x.eyes(1, 1), 31);
        x.strike(0);
        due("held counts", x.eyes(0, 0), 99);
        due("eye stays", x.count(2), 20);
        due("eyes", x.eyes(-1, 0), BAD);
        due("eyes", x.eyes(61, 0), BAD);
        due("eyes", x.eyes(60, 99999), NONE);
        due("eyes", x.eyes(60, 100000), BAD);
        due("eyes", x.eyes(60, -1), BAD);
    }

    private static void like() {
        GooseCounty x = new GooseCounty();
        due("missing", x.like(3, 0), NOTHING);
        x.sheet(3, 1, 8);
        due("no geese", x.like(3, 0), NONE);
        x.goose(GOOSE, 60, 0, 0);
        x.goose(GOOSE, 60, 0, 1);
        x.goose(GOOSE, 60, 0, 1);
        for (int k = 2; k < 8; k++) {
            x.mark(3, k, 1);
        }
        due("who saw it on day 1", x.like(3, 0), 1);
        due("and differs by", x.like(3, 1), 0);
        x.mark(3, 7, -4);
        due("signs left out", x.like(3, 1), 5);
        x.mark(3, 7, NONE);
        due("no number", x.like(3, 1), 0);
        x.mark(3, 1, 1);
        due("the least of three", x.like(3, 0), 0);
        x.sheet(3, 0, 0);
        due("no places", x.like(3, 0), 0);
        due("no places", x.like(3, 1), 0);
        due("like", x.like(-1, 0), BAD);
        due("like", x.like(4, 0), BAD);
        due("like", x.like(3, 2), BAD);
        due("like", x.like(3, -1), BAD);
        due("like", x.like(2, 2), BAD);
        due("nothing changed", x.told(1, 4), 0);
        due("the day is as it was", x.count(1), 0);
    }

    private static void feeAndFine() {
        GooseCounty x = six();
        x.strike(0);
        x.strike(1);
        x.strike(3);
        due("fee without a text", x.fee(), 1);
        due("fine without a text", x.fine(0), 60);
        law(x, "fee h * 100 + b");
        due("fee", x.fee(), 102);
        law(x, "fine g - s * 7");
        due("fine", x.fine(0), 53);
        due("fine", x.fine(1), 60);
        due("fine", x.fine(6), BAD);
        due("fine", x.fine(-1), BAD);
        law(x, "fee b");
        due("the text told last", x.fee(), 2);
    }

    private static void lookText() {
        GooseCounty x = six();
        x.set(1, 3, 0);
        law(x, "look g*0+a+y*100-190+n");
        due("look", x.told(0, 5), 20 + 200 - 190 + 2);
        due("look, as gander", x.told(1, 5), 32);
        due("look, a third", x.told(3, 5), 31 / 3);
        due("look, egg", x.told(5, 5), 1);
        x.needs(0, 99);
        due("look held within 99", x.told(0, 5), 99);
        x.needs(0, 0);
        due("look held within 0", x.told(0, 5), 0);
        due("others by their yard", x.told(2, 5), 31);
    }

    private static void tape() {
        GooseCounty x = new GooseCounty();
        due("feed", x.feed(0x66656520, 0x31323334, 0x20202020), 12);
        due("bytes, the highest first", x.text(), 0);
        due("fee", x.fee(), 1234);
        for (int i = 1; i <= 8; i++) {
            due("feed", x.feed(-1, -1, -1), 12 * i);
        }
        due("ninth", x.feed(0, 0, 0), FULL);
        due("bytes", x.count(6), 96);
        due("trim", x.trim(97), BAD);
        due("trim", x.trim(-1), BAD);
        due("trim", x.trim(96), 96);
        due("trim", x.trim(85), 85);
        due("one too many", x.feed(0, 0, 0), FULL);
        due("trim", x.trim(84), 84);
        due("just as many", x.feed(0, 0, 0), 96);
        due("signs", x.text(), -100);
        due("used up", x.count(6), 0);
        due("trim", x.trim(0), 0);
        due("trim", x.trim(1), BAD);
        type(x, "fee 12");
        type(x, "34 + 1");
        due("goes on", x.text(), 1);
        due("fee", x.fee(), 1235);
    }

    private static void texts() {
        fault("", 0);
        fault("   ", 3);
        fault("look", 4);
        fault("look  ", 6);
        fault("lok g", 0);
        fault("  lookg", 2);
        fault("Look g", 0);
        fault("3", 0);
        fault("look5", 4);
        fault("look g5", 6);
        fault("look g g", 7);
        fault("look gg", 5);
        fault("look 5g", 6);
        fault("look 12345", 5);
        fault("look 1 2", 7);
        fault("look s", 5);
        fault("look h", 5);
        fault("fee g", 4);
        fault("fine a", 5);
        fault("fine look", 5);
        fault("look g<a<y", 8);
        fault("look g=", 7);
        fault("look g==a", 7);
        fault("look g+", 7);
        fault("look +g", 5);
        fault("look -1", 5);
        fault("look g)", 6);
        fault("look (g", 7);
        fault("look (g ", 8);
        fault("look ()", 6);
        fault("look (g a)", 8);
        fault("look g!", 6);
        fault("look g&|a", 7);
        fault("look g\ta", 6);
        fault("look g" + (char) 225, 6);
        fault("look ((((((((g))))))))+(((((((((g)))))))))", 31);
        fault("look !!!!!!!!g+!!!!!!!!!g", 23);
        fault("look !(!(!(!(!(!(!(!(!g))))))))", 21);
        fault("look " + "1+".repeat(45) + "(", 96);
        fault("fee !!!!(!!!!(!h)=1)", 14);
        fault("fee 1>0=0|0", 7);
        fee("((((((((7))))))))", 7);
        fee("!!!!!!!!7", 1);
        fee("!(!(!(!(!(!(!(!(7))))))))", 1);
        fee("!!!!(!!!(!h)=1)", 0);
        fee("!h+!h+!h", 3);
        GooseCounty x = new GooseCounty();
        due("no blanks needed", law(x, "look(g)"), 0);
        due("no blanks needed", law(x, "fee!h"), 1);
        due("blanks at the ends", law(x, "  fine  g  "), 2);
        due("ninety-six bytes", law(x, "fee" + " ".repeat(92) + "h"), 3);
        due("0000", law(x, "fee 0000+0012"), 4);
        due("fee", x.fee(), 12);
    }

    private static void worth() {
        fee("1+2*3", 7);
        fee("(1+2)*3", 9);
        fee("7-2-1", 4);
        fee("99/4/3", 8);
        fee("7/2*2", 6);
        fee("(0-7)/2", -3);
        fee("5/0", 0);
        fee("5/h+2", 2);
        fee("9999*9999*9999", (int) (9999L * 9999L * 9999L));
        fee("0-9999*9999*30", (int) (-9999L * 9999L * 30L));
        fee("1<2", 1);
        fee("2<2", 0);
        fee("2=2", 1);
        fee("3>2", 1);
        fee("2>2", 0);
        fee("1+1=2", 1);
        fee("5&3", 1);
        fee("5&0", 0);
        fee("0|7", 1);
        fee("0|0", 0);
        fee("1|0&0", 1);
        fee("(1|0)&0", 0);
        fee("2=2&3>4|5<6", 1);
        fee("!0", 1);
        fee("!5", 0);
        fee("!0+4", 5);
        fee("!5*3+2", 2);
        fee("!(2>3)", 1);
    }

    private static void textsTold() {
        GooseCounty x = new GooseCounty();
        due("none counts", x.why(0), NONE);
        for (int t = 0; t < 14; t++) {
            due("text", law(x, t % 3 == 0 ? "look g+g+1" : t % 3 == 1 ? "fee h" : "fine !(s>12)&g"), t);
            due("key", x.textTold(t, 0), t % 3);
            due("pieces", x.textTold(t, 1), t % 3 == 1 ? 1 : 3);
        }
        due("why", x.why(0), 12);
        due("why", x.why(1), 13);
        due("why", x.why(2), 11);
        due("why", x.why(3), BAD);
        due("why", x.why(-1), BAD);
        due("fifteenth", law(x, "fee h"), FULL);
        due("used up", x.count(6), 0);
        due("a fault comes first", law(x, "fee g"), -104);
        due("texts", x.count(4), 14);
        due("told", x.textTold(14, 0), BAD);
        due("told", x.textTold(-1, 0), BAD);
        due("told", x.textTold(0, 2), BAD);
        due("told", x.textTold(0, -1), BAD);
    }

    private static void sheets() {
        GooseCounty x = six();
        due("sheet", x.sheet(0, 0, 24), 24);
        due("sheet", x.sheet(0, 1, 25), BAD);
        due("sheet", x.sheet(0, 0, -1), SIZE);
        due("sheet", x.sheet(0, 2, -1), BAD);
        due("sheet", x.sheet(0, -2, 1), BAD);
        due("sheet", x.sheet(4, 0, 1), BAD);
        due("sheet", x.sheet(-1, 0, -1), BAD);
        due("as it was", x.mark(0, 23, 1), 1);
        due("missing", x.sheet(0, -1, MIN), 0);
        due("missing", x.mark(0, 0, 1), NOTHING);
        due("missing", x.sheet(0, -1, MAX), 0);
        due("no places", x.sheet(0, 0, 0), 0);
        due("no places", x.mark(0, 0, 1), INDEX);
        x.sheet(1, 0, 2);
        due("mark", x.mark(1, 0, 65535 + 65536), 1);
        due("mark", x.mark(1, 1, 32768), 1);
        due("mark", x.mark(1, 1, NONE), KIND);
        due("mark", x.mark(1, 2, NONE), INDEX);
        due("mark", x.mark(1, -1, 1), INDEX);
        due("mark", x.mark(4, 0, 1), BAD);
        due("mark", x.mark(-1, 0, 1), BAD);
        x.lay(0, 2, 1);
        due("lowest 16 bits", x.item(0, 0), -1);
        due("lowest 16 bits", x.item(0, 1), -32768);
        x.sheet(2, 1, 2);
        due("mark", x.mark(2, 0, -99999), 1);
        due("mark", x.mark(2, 0, -100000), BAD);
        due("mark", x.mark(2, 1, 99999), 1);
        due("mark", x.mark(2, 1, 100000), BAD);
        due("mark", x.mark(2, 2, 100000), INDEX);
        due("mark", x.mark(2, 1, NONE), 1);
        x.lay(0, 2, 2);
        due("a float", x.item(0, 0), -99999);
        due("no number", x.item(0, 1), KIND);
        x.sheet(2, 1, 2);
        x.lay(0, 2, 2);
        due("all 0 again", x.item(0, 1), 0);
    }

    private static void pourAndRead() {
        GooseCounty x = six();
        x.sheet(0, 1, 4);
        x.mark(0, 0, -5);
        x.mark(0, 1, NONE);
        x.mark(0, 2, 100);
        x.mark(0, 3, 60);
        due("pour", x.pour(0), 2);
        int[] sight = {0, 60, 99, 60, 60, 60};
        for (int g = 0; g < 6; g++) {
            due("poured", x.told(g, 1), sight[g]);
        }
        due("pour again", x.pour(0), 0);
        due("pour", x.pour(4), BAD);
        due("pour", x.pour(-1), BAD);
        due("pour", x.pour(1), NOTHING);
        x.sheet(1, 1, 8);
        due("reads", x.reads(1), 1);
        for (int g = 0; g < 6; g++) {
            x.mark(1, g, g);
        }
        due("no goose is there", x.reads(1), 6);
        x.mark(1, 6, NONE);
        due("no goose is there", x.reads(1), 7);
        x.mark(1, 7, NONE);
        due("reads", x.reads(1), NONE);
        x.mark(1, 2, 3);
        due("reads", x.reads(1), 2);
        x.mark(1, 2, NONE);
        due("of numbers alone", x.reads(1), NONE);
        due("reads", x.reads(2), NOTHING);
        due("reads", x.reads(4), BAD);
        due("reads", x.reads(-1), BAD);
    }

    private static void copy() {
        GooseCounty x = new GooseCounty();
        x.sheet(0, 1, 5);
        x.sheet(1, 1, 3);
        x.sheet(2, 0, 3);
        for (int k = 0; k < 5; k++) {
            x.mark(0, k, k == 2 ? NONE : 10 + k);
        }
        due("copy", x.copy(0, 0, 0, 1, 4), 4);
        x.lay(0, 2, 0);
        int[] is = {10, 10, 11, KIND, 13};
        for (int k = 0; k < 5; k++) {
            due("as they were", x.item(0, k), is[k]);
        }
        due("copy", x.copy(0, 1, 0, 0, 4), 4);
        due("copy", x.copy(0, 0, 1, 0, 3), 3);
        x.lay(0, 2, 1);
        due("copied", x.item(0, 1), 11);
        due("copied", x.item(0, 2), KIND);
        due("nothing to copy", x.copy(0, 5, 1, 3, 0), 0);
        due("beyond", x.copy(0, 6, 1, 0, 0), INDEX);
        due("beyond", x.copy(0, 0, 1, 4, 0), INDEX);
        due("beyond", x.copy(0, 3, 1, 0, 3), INDEX);
        due("beyond", x.copy(0, 0, 1, 1, 3), INDEX);
        due("beyond", x.copy(0, 1, 1, 1, MAX), INDEX);
        due("below", x.copy(0, -1, 1, 0, 1), INDEX);
        due("below", x.copy(0, 0, 1, -1, 1), INDEX);
        due("below", x.copy(0, 0, 1, 0, -1), INDEX);
        due("below", x.copy(0, 0, 1, 0, MIN), INDEX);
        due("sorts", x.copy(0, -1, 2, 0, 1), KIND);
        due("missing", x.copy(0, 0, 3, 0, 1), NOTHING);
        due("missing", x.copy(3, 0, 2, 0, 1), NOTHING);
        due("no sheet", x.copy(4, 0, 3, 0, 1), BAD);
        due("no sheet", x.copy(3, 0, -1, 0, 1), BAD);
    }

    private static void slots() {
        GooseCounty x = six();
        due("lay", x.lay(0, 1, 3), 0);
        due("worth", x.ask(0, MYOPIC), 30);
        due("worth, taken for a gander", x.ask(0, GANDER), 30);
        due("worth, taken for a goose", x.ask(0, GOOSE), 30);
        due("no sleeper", x.ask(0, SLEEPER), KIND);
        due("ask", x.ask(0, 6), BAD);
        due("ask", x.ask(0, -1), BAD);
        due("ask", x.ask(5, 0), BAD);
        due("ask", x.ask(-1, 0), BAD);
        due("ask", x.ask(1, 0), NOTHING);
        x.turns(3, EGG);
        x.set(3, 1, 2);
        due("for good", x.ask(0, MYOPIC), 30);
        due("goose is no sheet", x.item(0, 0), KIND);
        due("goose is no number", x.rest(0, 0), KIND);
        due("lay", x.lay(0, 2, 0), NOTHING);
        due("lay", x.lay(0, 1, 6), BAD);
        due("lay", x.lay(0, 1, -1), BAD);
        due("lay", x.lay(0, 2, 4), BAD);
        due("lay", x.lay(0, 2, -1), BAD);
        due("lay", x.lay(0, 4, 0), BAD);
        due("lay", x.lay(0, -1, 0), BAD);
        due("lay", x.lay(5, 0, 0), BAD);
        due("lay", x.lay(-1, 0, 0), BAD);
        x.sheet(0, 0, 2);
        x.mark(0, 1, 8);
        due("lay", x.lay(0, 2, 0), 1);
        x.mark(0, 1, 9);
        x.sheet(0, -1, 0);
        due("a row of its own", x.item(0, 1), 8);
        due("item", x.item(0, 2), INDEX);
        due("item", x.item(0, -1), INDEX);
        due("item", x.item(5, 0), BAD);
        due("item", x.item(-1, 0), BAD);
        due("item", x.item(4, -1), NOTHING);
        due("sheet is no goose", x.ask(0, 0), KIND);
        due("sheet is no number", x.rest(0, 1), KIND);
        due("lay", x.lay(0, 3, -17), 2);
        due("rest", x.rest(0, 5), -2);
        due("rest", x.rest(0, -5), -2);
        due("rest", x.rest(0, 0), NO);
        due("rest", x.rest(1, 0), NOTHING);
        due("rest", x.rest(5, 1), BAD);
        due("rest", x.rest(-1, 1), BAD);
        due("number is no goose", x.ask(0, 0), KIND);
        due("number is no sheet", x.item(0, 0), KIND);
        due("lay", x.lay(0, 3, MIN), 3);
        due("rest", x.rest(0, -1), 0);
        due("lay nothing", x.lay(0, 0, MAX), 3);
        due("nothing", x.rest(0, 1), NOTHING);
        due("lay", x.lay(0, 0, MIN), 0);
    }

    private static void check() {
        GooseCounty x = six();
        for (int i = 1; i <= 60; i++) {
            due("tell", x.tell(i), i);
        }
        due("tell", x.tell(0), FULL);
        due("wait", x.count(5), 60);
        due("check", x.check(31), BAD);
        due("none wait", x.count(5), 0);
        x.tell(1);
        due("check", x.check(1), NO);
        due("none wait", x.count(5), 0);
        x.rule(1, 30);
        x.keep();
        int[] rows = new int[60];
        for (int d = 0; d < 30; d++) {
            x.days(1);
            rows[2 * d] = x.county(0);
            rows[2 * d + 1] = x.county(5);
        }
        tellAll(x, rows, 60);
        due("all right", x.check(30), 0);
        tellAll(x, rows, 59);
        due("one is missing", x.check(30), 60);
        tellAll(x, rows, 60);
        due("one too many", x.check(29), 59);
        tellAll(x, rows, 0);
        due("all are missing", x.check(1), 1);
        rows[17]++;
        tellAll(x, rows, 60);
        due("one is wrong", x.check(30), 18);
        tellAll(x, rows, 60);
        due("check", x.check(0), BAD);
        due("none wait", x.count(5), 0);
        due("the day stays", x.count(1), 30);
        GooseCounty y = six();
        pass(y, 9999);
        y.keep();
        due("no days are left", y.check(30), 0);
        y.tell(0);
        due("one too many", y.check(30), 1);
    }

    private static void tellAll(GooseCounty x, int[] rows, int n) {
        for (int i = 0; i < n; i++) {
            x.tell(rows[i]);
        }
    }

    private static void images() {
        GooseCounty x = six();
        law(x, "fee h + 1");
        x.needs(2, 7);
        x.rule(0, 30);
        x.rule(1, 50);
        x.strike(0);
        due("keep", x.keep(), 6);
        for (int again = 0; again < 2; again++) {
            x.trim(0);
            law(x, "fee h + 2");
            law(x, "look 0");
            x.goose(EGG, 1, 1, 1);
            x.turns(0, EGG);
            x.needs(2, 8);
            x.rule(0, 31);
            x.days(20);
            x.sheet(0, 0, 3);
            x.lay(0, 3, 4);
            x.tell(5);
            type(x, "fee");
            due("back", x.back(), 6);
            due("kind", x.told(0, 0), GOOSE);
            due("saw", x.told(0, 4), 1);
            due("sees", x.told(0, 5), 50);
            due("need", x.yardOf(2, 0), 7);
            int[] counts = {6, 0, 30, 50, 1, again + 1, 3, 1};
            for (int what = 0; what < 8; what++) {
                due("count " + what, x.count(what), counts[what]);
            }
            due("held", x.county(0), 1);
            due("taken", x.county(2), 0);
            due("fee", x.fee(), 2);
            due("why", x.why(1), 0);
            due("why", x.why(0), NONE);
            due("sheets stay", x.mark(0, 2, 1), 1);
            due("slots stay", x.rest(0, 3), 1);
        }
        due("count", x.count(8), BAD);
        due("count", x.count(-1), BAD);
        GooseCounty y = new GooseCounty();
        due("keep none", y.keep(), 0);
        y.deal(3);
        due("back to none", y.back(), 0);
        due("geese", y.count(0), 0);
        due("a new one has seen nothing", y.goose(0, 1, 1, 1) == 0 ? y.told(0, 4) : -1, 0);
    }

    public static void main(String[] args) {
        newObject();
        goose();
        told();
        as();
        turns();
        set();
        yards();
        rule();
        deal();
        seed();
        drive();
        strike();
        days();
        fox();
        county();
        behind();
        holds();
        meets();
        place();
        becomes();
        eyes();
        like();
        feeAndFine();
        lookText();
        tape();
        texts();
        worth();
        textsTold();
        sheets();
        pourAndRead();
        copy();
        slots();
        check();
        images();
        end("all promises hold");
    }
}
