/** The sentences of promises 1 to 43 that name a boundary, each by itself, with the answers that are due at it. */
public final class EdgesTest extends Trial {

    // ---- geese, yards: promises 1 to 12

    private static void newObject() {
        says("As told; no GEESE.");
        GooseCounty x = new GooseCounty();
        due("geese", x.count(0), 0);
        due("the first would be 0, none is", x.told(0, 0), BAD);
        due("nobody in any yard", x.yardOf(0, 2) | x.yardOf(5, 2), 0);
        due("nothing holds", x.county(3), 0);
        due("no texts", x.count(4), 0);
        due("no numbers wait", x.count(5), 0);
        due("the tape is empty", x.count(6), 0);
        GooseCounty other = new GooseCounty();
        x.goose(0, 1, 1, 1);
        x.needs(0, 9);
        due("another object has its own", other.count(0), 0);
        due("another object has its own", other.yardOf(0, 0), 2);
    }

    private static void gooseAndTold() {
        says("One more of GEESE: its number.");
        GooseCounty x = new GooseCounty();
        due("the first", x.goose(5, 99, 98, 5), 0);
        due("the second", x.goose(0, 0, 0, 0), 1);
        says("what 0 KIND, 1 SIGHT, 2 AGE, 3 its YARD, 4 SAW, 5 what it SEES, 6 what it WANDERS, 7 what it TALLIES, 8 WORTH");
        int[] egg = {5, 99, 98, 5, 0, 1, 0, 4, 0};
        int[] least = {0, 0, 0, 0, 0, 0, 0, 2, 0};
        for (int what = 0; what < 9; what++) {
            due("egg " + what, x.told(0, what), egg[what]);
            due("least " + what, x.told(1, what), least[what]);
        }
        says("One as one of a KIND: SIGHT.");
        due("sight, not what it sees", x.as(0, EGG), 99);
        due("sight 0 is no refusal", x.as(1, GOOSE), 0);
    }

    private static void turnsAndSet() {
        says("One is of another KIND from now on: what it was.");
        GooseCounty x = one(GOOSE, 60, 10, 0);
        x.set(0, 4, 5);
        due("to the last kind", x.turns(0, EGG), GOOSE);
        due("back to the first", x.turns(0, GOOSE), EGG);
        due("to the same", x.turns(0, GOOSE), GOOSE);
        x.turns(0, ABROAD);
        int[] is = {ABROAD, 60, 10, 0, 5, 55, 3, 3, 94};
        for (int what = 0; what < 9; what++) {
            due("all else stays: " + what, x.told(0, what), is[what]);
        }
        says("of one becomes v: what it was.");
        for (int what = 1; what <= 4; what++) {
            GooseCounty y = six();
            int was = y.told(2, what);
            due("what it was", y.set(2, what, 5), was);
            due("what it is", y.set(2, what, 0), 5);
            for (int other = 0; other <= 4; other++) {
                due("of one trait alone", y.told(2, other), other == what ? 0 : other == 0 || other == 3 ? 2 : six().told(2, other));
            }
            due("of one goose alone", y.told(1, what), six().told(1, what));
        }
    }

    private static void needsAndYards() {
        says("NEED of a YARD becomes v: what it was.");
        GooseCounty x = six();
        due("was 2", x.needs(0, 99), 2);
        due("was 99", x.needs(0, 0), 99);
        due("another yard's stays", x.yardOf(1, 0), 2);
        says("what 0 NEED, 1 COUNT, 2 GEESE in it, as a set, 3 WITNESSES, as a set, 4 1 if a BARGAIN would hold now, else 0");
        due("need", x.yardOf(2, 0), 2);
        due("count", x.yardOf(2, 1), 3);
        due("geese", x.yardOf(2, 2), 4);
        due("witnesses", x.yardOf(2, 3), 4);
        due("it would hold", x.yardOf(2, 4), 1);
        x.needs(2, 3);
        due("just so", x.yardOf(2, 4), 1);
        x.needs(2, 4);
        due("it would not", x.yardOf(2, 4), 0);
        due("nothing was struck", x.county(0) + x.county(1), 0);
        x.rule(0, 51);
        due("in it, but no witness", x.yardOf(2, 2) * 10 + x.yardOf(2, 3), 40);
        due("they do not count", x.yardOf(2, 1), 0);
    }

    private static void dealAndSeed() {
        says("GEESE are drawn, n (1 .. 10) of them, as many as there is room for (no draws for others): how many came");
        for (int there = 0; there <= 10; there++) {
            for (int n : new int[] {1, 9, 10}) {
                GooseCounty x = new GooseCounty();
                int z = 1;
                for (int g = 0; g < there; g++) {
                    x.goose(0, 1, 1, 1);
                }
                int came = Math.min(n, 10 - there);
                due(n + " come to " + there, x.deal(n), came);
                for (int i = 0; i < 4 * came; i++) {
                    z = drawn(z);
                }
                due("draws", x.count(7), z);
                due("geese", x.count(0), there + came);
            }
        }
        says("z becomes v: what it was.");
        GooseCounty x = new GooseCounty();
        int was = 1;
        for (int v : new int[] {MIN, MAX, 0, -1, BAD, NONE, 1}) {
            due("was", x.seed(v), was);
            due("is", x.count(7), v);
            was = v;
        }
    }

    private static void rule() {
        says("A RULE becomes v: what it was.");
        GooseCounty x = new GooseCounty();
        due("eye", x.rule(0, 7), 20);
        due("fox", x.rule(1, 8), 0);
        due("eye", x.rule(0, 9), 7);
        due("fox", x.rule(1, 10), 8);
        due("100 is for the fox alone", x.rule(0, 100), BAD);
        due("100 is for the fox alone", x.rule(1, 100), 10);
        due("eye", x.count(2), 9);
    }

    private static void drive() {
        says("DRIVE to a YARD: what 0 the set, 1 how many.");
        GooseCounty x = new GooseCounty();
        x.needs(3, 0);
        due("no geese, no need", x.drive(3, 0), 0);
        due("no geese, no need", x.drive(3, 1), 0);
        x.goose(MYOPIC, 99, 0, 3);
        due("one is in the way", x.drive(3, 0), NONE);
        x.goose(GANDER, 99, 0, 0);
        due("a gander is not enough", x.drive(3, 0), NONE);
        for (int g = 2; g < 10; g++) {
            x.goose(GANDER, 99, 0, 0);
        }
        due("two are", x.drive(3, 0), 2 | 4);
        x.needs(3, 7);
        due("all nine others", x.drive(3, 0), 1022);
        due("nine", x.drive(3, 1), 9);
        x.needs(3, 8);
        due("not even all", x.drive(3, 1), NONE);
    }

    // ---- days: promises 13 to 15

    private static void strikeAndDays() {
        says("A BARGAIN in a YARD now: 1 if it holds, else 0.");
        GooseCounty x = one(GOOSE, 60, 0, 5);
        due("in the last yard", x.strike(5), 1);
        due("in the first", x.strike(0), 0);
        due("no day goes", x.count(1), 0);
        says("n (1 .. 100) DAYS (no more than up to 9999): by how much HELD is more");
        GooseCounty y = one(GOOSE, 99, 0, 0);
        y.strike(0);
        due("one day", y.days(1), 1);
        due("five more", y.days(5), 0);
        due("the next", y.days(1), 1);
        due("a hundred", y.days(100), 16);
        due("the day", y.count(1), 107);
        pass(y, 9800);
        due("9907", y.count(1), 9907);
        int z = y.count(7);
        y.days(93);
        due("just one too many", y.count(1), 9999);
        for (int i = 0; i < 92; i++) {
            z = drawn(z);
        }
        due("a draw for each of 92", y.count(7), z);
        due("no more", y.days(100), 0);
        due("no more draws", y.count(7), z);
        due("a bargain still can be", y.strike(1), 0);
    }

    private static void county() {
        says("3 YARDS in which a BARGAIN would hold, as a set, 4 AGE of all, together, 5 SAW of all, together, 6 ELDEST");
        GooseCounty x = new GooseCounty();
        for (int what = 0; what < 6; what++) {
            due("of no geese " + what, x.county(what), 0);
        }
        due("eldest of none", x.county(6), NONE);
        for (int yard = 0; yard < 6; yard++) {
            x.needs(yard, 0);
        }
        due("all yards", x.county(3), 63);
        for (int g = 0; g < 10; g++) {
            x.goose(GOOSE, 0, 99, 0);
            x.set(g, 4, 9999);
        }
        due("the most age", x.county(4), 990);
        due("the most that was seen", x.county(5), 99990);
        due("eldest of ten alike", x.county(6), 0);
        x.set(0, 2, 98);
        due("eldest", x.county(6), 1);
        for (int g = 0; g < 9; g++) {
            x.set(g, 2, 0);
        }
        due("the last", x.county(6), 9);
    }

    // ---- what will be: promises 16 to 24

    private static void behind() {
        says("BEHIND n (0 .. 100) DAYS");
        GooseCounty x = six();
        x.rule(1, 35);
        x.strike(2);
        for (int n : new int[] {0, 1, 99, 100}) {
            GooseCounty there = six();
            there.rule(1, 35);
            there.strike(2);
            pass(there, n);
            for (int what = 0; what < 5; what++) {
                due("behind " + n + ": " + what, x.behind(n, what), there.county(what));
            }
            for (int g = 0; g < 6; g++) {
                due("behind " + n + ": saw of " + g, x.behind(n, 5 + g), there.told(g, 4));
            }
        }
        says("BAD: 5 and k of no GOOSE, too.");
        due("the goose behind the last", x.behind(0, 11), BAD);
        x.goose(0, 1, 1, 1);
        due("now it is", x.behind(0, 11), 0);
    }

    private static void eyesAndFine() {
        says("EYES for n (0 .. 60), v (0 .. 99999).");
        GooseCounty x = one(GOOSE, 80, 0, 5);
        due("day 59 is the last that counts", x.eyes(60, 10), 80 - 5);
        due("not by 59", x.eyes(59, 10), NONE);
        due("nine are", x.eyes(59, 9), 80 - 5);
        due("more than can be", x.eyes(60, 11), NONE);
        says("What fine gives for one.");
        GooseCounty y = one(GOOSE, 0, 0, 0);
        y.goose(GOOSE, 99, 0, 0);
        due("sight 0", y.fine(0), 0);
        due("sight 99", y.fine(1), 99);
        law(y, "fine s-g");
        due("may be below 0", y.fine(1), -99);
        law(y, "fine 0-9999*9999*21-9999*4760");
        due("not held within anything", y.fine(0), (int) (-9999L * 9999 * 21 - 9999L * 4760));
        says("What fee gives.");
        law(y, "fee 0-1");
        due("below 0", y.fee(), -1);
    }

    private static void like() {
        says("LIKE by a SHEET: what 0 the one, 1 the differences, together.");
        GooseCounty x = new GooseCounty();
        x.sheet(0, 0, 24);
        for (int g = 0; g < 10; g++) {
            x.goose(EGG, 1, 1, 0);
            x.set(g, 4, 100 - g);
        }
        due("the last of ten, by 24 places", x.like(0, 0), 9);
        due("it differs by", x.like(0, 1), 24 * 91);
        x.sheet(0, 1, 0);
        due("by no places", x.like(0, 0), 0);
        due("by no places", x.like(0, 1), 0);
    }

    private static void placeAndBecomes() {
        says("PLACE of one, for n (1 .. 60): what 0 the YARD, 1 HELD then.");
        GooseCounty x = one(GOOSE, 99, 0, 0);
        x.days(5);
        due("sixty days, from day 5 on", x.place(0, 60, 1), 11);
        due("all yards are alike", x.place(0, 60, 0), 0);
        due("one day", x.place(0, 1, 0), 5);
        due("held then", x.place(0, 1, 1), 2);
        says("BECOMES of one, for n (1 .. 60): what 0 the KIND, 1 HELD then.");
        x.needs(5, 3);
        due("one day, not where it is", x.becomes(0, 1, 0), GOOSE);
        due("held already", x.becomes(0, 1, 1), 1);
        x.set(0, 3, 5);
        due("one day", x.becomes(0, 1, 0), SLEEPER);
        due("held then", x.becomes(0, 1, 1), 2);
        due("sixty days", x.becomes(0, 60, 1), 21);
        due("abroad it is in yards 5 and 2", x.becomes(0, 60, 0), ABROAD);
    }

    // ---- texts: promises 25 to 29

    private static void feedAndTrim() {
        says("Twelve bytes come to THE TAPE, the highest of each number first: how many it has.");
        GooseCounty x = new GooseCounty();
        due("feed", x.feed(0x66656520, 0x39202a20, 0x2020202b), 12);
        due("feed", x.feed(0x20202020, 0x20202020, 0x20202020), 24);
        due("fault at the byte that is the lowest of the third", x.text(), -111);
        due("feed", x.feed(0x66656528, 0x372d3530, 0x292f3334), 12);
        due("text", x.text(), 0);
        due("fee (7-50)/34", x.fee(), -1);
        due("bytes above 127", x.feed(0xffffffff, 0x80808080, MIN), 12);
        due("are signs", x.text(), -100);
        says("FULL: it would have more than 96.");
        for (int i = 1; i <= 8; i++) {
            due("feed", x.feed(0x20202020, 0x20202020, 0x20202020), 12 * i);
        }
        due("ninth", x.feed(0, 0, 0), FULL);
        due("85 and 12", x.trim(85) == 85 ? x.feed(0, 0, 0) : 0, FULL);
        due("bytes", x.count(6), 85);
        due("84 and 12", x.trim(84) == 84 ? x.feed(0, 0, 0) : 0, 96);
        due("its bytes were blanks, then 0", x.text(), -184);
        says("THE TAPE keeps its first n bytes: n.");
        type(x, "fee 1234");
        due("all", x.trim(8), 8);
        due("one more than all", x.trim(9), BAD);
        due("first six", x.trim(6), 6);
        due("no more than six now", x.trim(7), BAD);
        due("text", x.text(), 1);
        due("fee 12", x.fee(), 12);
        type(x, "fee 1");
        due("none", x.trim(0), 0);
        due("not one", x.trim(1), BAD);
        type(x, "fee 34");
        due("what was trimmed is gone", x.text(), 2);
        due("fee 34", x.fee(), 34);
    }

    private static void texts() {
        says("-100 less the place of its FAULT; FULL.");
        GooseCounty x = new GooseCounty();
        for (int t = 0; t < 14; t++) {
            due("number", law(x, "fine " + t), t);
            due("the one that counts", x.why(2), t);
        }
        due("full", law(x, "fine 99"), FULL);
        due("fault first", law(x, "fine 99)"), -107);
        due("the end too soon, first", law(x, "fine"), -104);
        due("still the last one", x.fine(0) == BAD ? x.why(2) : -1, 13);
        says("Of a TEXT: what 0 KEY (0 look, 1 fee, 2 fine), 1 how many NUMBERS and NAMES it has.");
        GooseCounty y = new GooseCounty();
        law(y, "look !(g+1*a=0007)|n&y");
        law(y, "fee 5");
        law(y, "fine " + "g+".repeat(45) + "s");
        int[][] told = {{0, 6}, {1, 1}, {2, 46}};
        for (int t = 0; t < 3; t++) {
            due("key", y.textTold(t, 0), told[t][0]);
            due("pieces", y.textTold(t, 1), told[t][1]);
        }
        y.goose(0, 2, 0, 0);
        due("the longest gives", y.fine(0), 90);
        says("The TEXT that counts for a KEY.");
        GooseCounty z = new GooseCounty();
        z.keep();
        law(z, "fee 1");
        due("told", z.why(1), 0);
        z.back();
        due("the image has none", z.why(1), NONE);
        due("none is told", z.textTold(0, 0), BAD);
        due("a new one is the first again", law(z, "look 1"), 0);
        due("of its own key", z.textTold(0, 0), 0);
        due("not of the other", z.why(1), NONE);
    }

    // ---- sheets, slots: promises 30 to 38

    private static void sheet() {
        says("A SHEET becomes a row of n places of a sort, all 0 (sort -1: MISSING, n any): n (0).");
        GooseCounty x = new GooseCounty();
        for (int sort = 0; sort < 2; sort++) {
            due("24 places", x.sheet(0, sort, 24), 24);
            for (int k = 0; k < 24; k++) {
                x.mark(0, k, 9);
            }
            due("24 again", x.sheet(0, sort, 24), 24);
            x.lay(0, 2, 0);
            for (int k = 0; k < 24; k++) {
                due("all 0", x.item(0, k), 0);
            }
            due("no 25th", x.item(0, 24), INDEX);
            due("one place", x.sheet(0, sort, 1), 1);
            due("no second", x.mark(0, 1, 1), INDEX);
            due("no places", x.sheet(0, sort, 0), 0);
            due("no first", x.mark(0, 0, 1), INDEX);
            due("but not missing", x.pour(0), 0);
        }
        for (int n : new int[] {MIN, -1, 0, 24, 25, MAX}) {
            x.sheet(0, 1, 3);
            due("missing, n " + n, x.sheet(0, -1, n), 0);
            due("it is", x.pour(0), NOTHING);
        }
        due("missing can become missing", x.sheet(0, -1, 5), 0);
    }

    private static void mark() {
        says("(of shorts its lowest 16 bits; of floats v, -99999 .. 99999; NONE: NO NUMBER): 1");
        int[][] shorts = {{32767, 32767}, {32768, -32768}, {65535, -1}, {65536, 0}, {65537, 1}, {-1, -1}, {-32768, -32768},
            {-32769, 32767}, {MAX, -1}, {MIN, 0}, {BAD, (short) BAD}, {NONE + 1, (short) (NONE + 1)}, {100000, -31072}};
        GooseCounty x = new GooseCounty();
        x.sheet(0, 0, 1);
        for (int[] s : shorts) {
            due("mark " + s[0], x.mark(0, 0, s[0]), 1);
            x.lay(0, 2, 0);
            due("lowest bits of " + s[0], x.item(0, 0), s[1]);
        }
        x.sheet(1, 1, 1);
        for (int v : new int[] {-99999, -1, 0, 32768, 65537, 99998, 99999}) {
            due("mark " + v, x.mark(1, 0, v), 1);
            x.lay(0, 2, 1);
            due("float " + v, x.item(0, 0), v);
        }
        for (int v : new int[] {100000, -100000, MAX, MIN, NONE + 1, NONE - 1}) {
            due("mark " + v, x.mark(1, 0, v), BAD);
        }
        due("no number", x.mark(1, 0, NONE), 1);
        x.lay(0, 2, 1);
        due("no number", x.item(0, 0), KIND);
        due("a number again", x.mark(1, 0, 5), 1);
        x.lay(0, 2, 1);
        due("a number again", x.item(0, 0), 5);
    }

    private static void pour() {
        says("(each held within 0 and 99; NO NUMBER, and beyond the SHEET: it stays): how many are otherwise then");
        GooseCounty x = new GooseCounty();
        for (int g = 0; g < 10; g++) {
            x.goose(GOOSE, 50, 0, 0);
        }
        x.sheet(0, 1, 9);
        int[] row = {-1, 0, 1, 98, 99, 100, NONE, 50, 99999};
        int[] sight = {0, 0, 1, 98, 99, 99, 50, 50, 99, 50};
        for (int k = 0; k < 9; k++) {
            x.mark(0, k, row[k]);
        }
        due("seven are otherwise", x.pour(0), 7);
        for (int g = 0; g < 10; g++) {
            due("sight of " + g, x.told(g, 1), sight[g]);
        }
        due("none is otherwise", x.pour(0), 0);
        x.sheet(1, 0, 2);
        x.mark(1, 0, -32768);
        x.mark(1, 1, 32767);
        due("of shorts", x.pour(1), 1);
        due("least", x.told(0, 1), 0);
        due("most", x.told(1, 1), 99);
        GooseCounty y = one(GOOSE, 50, 0, 0);
        y.sheet(0, 0, 24);
        due("more places than geese", y.pour(0), 1);
        y.sheet(0, 0, 0);
        y.set(0, 1, 7);
        due("no places", y.pour(0), 0);
        due("it stays", y.told(0, 1), 7);
        GooseCounty none = new GooseCounty();
        none.sheet(0, 0, 3);
        due("no geese", none.pour(0), 0);
        x.sheet(2, 1, 24);
        due("ten geese, 24 places", x.pour(2), 9);
    }

    private static void reads() {
        says("The first place (of numbers alone) at which a SHEET is not the YARD of that GOOSE");
        GooseCounty x = one(GOOSE, 1, 1, 0);
        x.goose(GOOSE, 1, 1, 5);
        x.sheet(0, 1, 2);
        due("place 1 is not", x.reads(0), 1);
        x.mark(0, 1, 5);
        due("all are", x.reads(0), NONE);
        x.mark(0, 0, 6);
        due("no yard at all", x.reads(0), 0);
        x.mark(0, 0, -1);
        due("no yard at all", x.reads(0), 0);
        x.mark(0, 0, NONE);
        due("of numbers alone", x.reads(0), NONE);
        x.sheet(1, 0, 1);
        due("fewer places than geese", x.reads(1), NONE);
        says("(of places that are no GOOSE all numbers are not)");
        x.sheet(2, 1, 3);
        x.mark(2, 1, 5);
        due("a 0 where no goose is", x.reads(2), 2);
        x.mark(2, 2, NONE);
        due("no number where no goose is", x.reads(2), NONE);
        GooseCounty none = new GooseCounty();
        none.sheet(0, 0, 1);
        due("no geese at all", none.reads(0), 0);
        none.sheet(0, 1, 0);
        due("no geese, no places", none.reads(0), NONE);
        GooseCounty full = new GooseCounty();
        for (int g = 0; g < 10; g++) {
            full.goose(GOOSE, 1, 1, 0);
        }
        full.sheet(0, 0, 24);
        due("ten geese, 24 places", full.reads(0), 10);
    }

    private static void copy() {
        says("So many places of a SHEET come to another one (or the same), as they were: many.");
        int[][] ways = {{0, 0, 5}, {0, 1, 4}, {1, 0, 4}, {0, 4, 1}, {4, 0, 1}, {2, 2, 3}, {5, 0, 0}, {0, 5, 0}, {5, 5, 0}, {1, 2, 3}};
        for (int[] way : ways) {
            GooseCounty x = new GooseCounty();
            x.sheet(0, 1, 5);
            int[] row = {10, 11, NONE, 13, 14};
            int[] due = row.clone();
            for (int k = 0; k < 5; k++) {
                x.mark(0, k, row[k]);
            }
            System.arraycopy(row, way[0], due, way[1], way[2]);
            due("copy", x.copy(0, way[0], 0, way[1], way[2]), way[2]);
            x.lay(0, 2, 0);
            for (int k = 0; k < 5; k++) {
                due("place " + k, x.item(0, k), due[k] == NONE ? KIND : due[k]);
            }
        }
        GooseCounty y = new GooseCounty();
        y.sheet(0, 0, 24);
        y.sheet(1, 0, 24);
        y.sheet(2, 0, 0);
        y.mark(0, 0, 1);
        y.mark(0, 23, 2);
        due("all 24", y.copy(0, 0, 1, 0, 24), 24);
        y.lay(0, 2, 1);
        due("the first", y.item(0, 0), 1);
        due("the last", y.item(0, 23), 2);
        due("one too many", y.copy(0, 0, 1, 0, 25), INDEX);
        due("one too far", y.copy(0, 1, 1, 0, 24), INDEX);
        due("one too far", y.copy(0, 0, 1, 1, 24), INDEX);
        due("none from none", y.copy(2, 0, 1, 24, 0), 0);
        due("one from none", y.copy(2, 0, 1, 0, 1), INDEX);
        due("below 0", y.copy(0, 5, 1, 5, -1), INDEX);
    }

    private static void lay() {
        says("thing 0 nothing, 1 GOOSE k, 2 SHEET k, 3 the number k: what it held (0 .. 3)");
        GooseCounty x = one(GOOSE, 42, 0, 0);
        x.sheet(0, 0, 1);
        for (int before = 0; before < 4; before++) {
            for (int thing = 0; thing < 4; thing++) {
                x.lay(2, before, 0);
                due("held " + before, x.lay(2, thing, 0), before);
                due("goose", x.ask(2, 0), thing == 1 ? 42 : thing == 0 ? NOTHING : KIND);
                due("sheet", x.item(2, 0), thing == 2 ? 0 : thing == 0 ? NOTHING : KIND);
                due("number", x.rest(2, 1), thing == 3 ? 0 : thing == 0 ? NOTHING : KIND);
            }
        }
        x.lay(2, 3, 5);
        due("refused", x.lay(2, 2, 1), NOTHING);
        due("it holds what it held", x.rest(2, 100), 5);
        due("refused", x.lay(2, 1, 1), BAD);
        due("it holds what it held", x.lay(2, 0, 0), 3);
    }

    private static void askAndItem() {
        says("WORTH of the GOOSE in a SLOT, taken for one of a KIND (0 .. 5).");
        int[] worth = {60, 67, 79, 33, 84, 7};
        for (int kind = 0; kind < 6; kind++) {
            GooseCounty x = one(kind, 60, 20, 0);
            x.set(0, 4, 7);
            x.lay(0, 1, 0);
            due("taken for what it is", x.ask(0, kind), worth[kind]);
            due("taken for a goose", x.ask(0, GOOSE), worth[kind]);
        }
        says("A place of the SHEET in a SLOT.");
        GooseCounty x = new GooseCounty();
        x.sheet(0, 0, 24);
        x.mark(0, 23, -5);
        x.lay(4, 2, 0);
        due("the last place", x.item(4, 23), -5);
        due("behind it", x.item(4, 24), INDEX);
        due("ahead of the first", x.item(4, -1), INDEX);
        x.sheet(0, 1, 2);
        x.lay(4, 2, 0);
        due("a shorter row now", x.item(4, 2), INDEX);
    }

    private static void rest() {
        says("The rest of the number in a SLOT by n.");
        int[][] rows = {{17, 5, 2}, {17, -5, 2}, {-17, 5, -2}, {-17, -5, -2}, {17, 1, 0}, {17, -1, 0}, {17, 17, 0}, {17, 18, 17},
            {MIN, -1, 0}, {MIN, MIN, 0}, {MIN, MAX, -1}, {MAX, MIN, MAX}, {0, MIN, 0}, {NONE, MIN, NONE}};
        for (int[] row : rows) {
            GooseCounty x = new GooseCounty();
            x.lay(1, 3, row[0]);
            due(row[0] + " by " + row[1], x.rest(1, row[1]), row[2]);
            due("by 0", x.rest(1, 0), NO);
        }
    }

    // ---- rows, images: promises 39 to 43

    private static void tell() {
        says("One more number waits: how many.");
        GooseCounty x = new GooseCounty();
        for (int i = 1; i <= 60; i++) {
            due("tell", x.tell(MIN + i), i);
        }
        due("the sixty-first", x.tell(1), FULL);
        due("sixty wait", x.count(5), 60);
        due("check", x.check(1), NO);
        due("none wait", x.count(5), 0);
        due("the first again", x.tell(1), 1);
    }

    private static void tellAll(GooseCounty x, int[] row, int many) {
        for (int i = 0; i < many; i++) {
            x.tell(row[i]);
        }
    }

    /** The days told of a county from here on, for 30 days. */
    private static int[] daysOf(GooseCounty x) {
        int[] row = new int[60];
        for (int d = 0; d < 30; d++) {
            x.days(1);
            row[2 * d] = x.county(0);
            row[2 * d + 1] = x.county(5);
        }
        return row;
    }

    private static void checkRow(int n, int told, int wrongAt, int answer) {
        GooseCounty x = six();
        x.keep();
        int[] row = daysOf(x);
        if (wrongAt >= 0) {
            row[wrongAt]++;
        }
        tellAll(x, row, told);
        due("check of " + n + ", told " + told + ", wrong at " + wrongAt, x.check(n), answer);
        due("none wait", x.count(5), 0);
        due("the county stays", x.count(1), 30);
        x.back();
        due("the image stays", x.count(1), 0);
    }

    private static void check() {
        says("two by two: 0; else 1 and how many stand right ahead of the first that is not (or is missing, or one too many)");
        checkRow(30, 60, -1, 0);
        checkRow(1, 2, -1, 0);
        checkRow(30, 59, -1, 60);
        checkRow(29, 60, -1, 59);
        checkRow(29, 59, -1, 59);
        checkRow(1, 0, -1, 1);
        checkRow(1, 1, -1, 2);
        checkRow(1, 3, -1, 3);
        checkRow(30, 60, 0, 1);
        checkRow(30, 60, 1, 2);
        checkRow(30, 60, 59, 60);
        checkRow(29, 60, 59, 59);
        checkRow(2, 60, 3, 4);
        says("n (1 .. 30; fewer, if THE DAY would be above 9999)");
        for (int left = 0; left <= 2; left++) {
            GooseCounty x = six();
            pass(x, 9999 - left);
            x.keep();
            int[] row = daysOf(x);
            tellAll(x, row, 2 * left);
            due("just those that are left", x.check(30), 0);
            tellAll(x, row, 2 * left + 1);
            due("one too many", x.check(30), 2 * left + 1);
            tellAll(x, row, 2 * left);
            due("of one day at most", x.check(1), left == 2 ? 3 : 0);
        }
    }

    private static void keepAndBack() {
        says("AN IMAGE is kept: how many GEESE.");
        GooseCounty x = new GooseCounty();
        due("none", x.keep(), 0);
        x.deal(10);
        due("all", x.keep(), 10);
        says("All is as THE IMAGE: how many GEESE.");
        due("back", x.back(), 10);
        GooseCounty y = one(GOOSE, 1, 2, 3);
        y.keep();
        y.deal(9);
        y.set(1, 4, 77);
        due("back to one", y.back(), 1);
        due("the others are none", y.told(1, 0), BAD);
        due("a new one", y.goose(GOOSE, 5, 6, 4), 1);
        due("is new", y.told(1, 4), 0);
        due("a second image in the first's place", y.keep(), 2);
        y.turns(0, EGG);
        y.back();
        due("geese", y.count(0), 2);
        due("kind", y.told(0, 0), GOOSE);
    }

    private static void count() {
        says("0 how many GEESE, 1 THE DAY, 2 EYE, 3 FOX, 4 TEXTS, 5 numbers that wait, 6 bytes of THE TAPE, 7 z");
        GooseCounty x = new GooseCounty();
        x.deal(10);
        x.rule(0, 99);
        x.rule(1, 100);
        for (int t = 0; t < 14; t++) {
            law(x, "fee 1");
        }
        for (int i = 0; i < 60; i++) {
            x.tell(i);
        }
        type(x, " ".repeat(96));
        pass(x, 9999);
        x.seed(MIN);
        int[] most = {10, 9999, 99, 100, 14, 60, 96, MIN};
        for (int what = 0; what < 8; what++) {
            due("most of " + what, x.count(what), most[what]);
        }
        due("no other", x.count(8), BAD);
        due("no other", x.count(-1), BAD);
    }

    public static void main(String[] args) {
        newObject();
        gooseAndTold();
        turnsAndSet();
        needsAndYards();
        dealAndSeed();
        rule();
        drive();
        strikeAndDays();
        county();
        behind();
        eyesAndFine();
        like();
        placeAndBecomes();
        feedAndTrim();
        texts();
        sheet();
        mark();
        pour();
        reads();
        copy();
        lay();
        askAndItem();
        rest();
        tell();
        check();
        keepAndBack();
        count();
        end("the promises hold at their edges");
    }
}
