/**
 * Every number that a call takes, at the least and the most that it may be and just outside; every answer of a refused
 * call, in the order in which the document names them; and that a refused call changes nothing.
 *
 * A row is calls with ; between them, the last of which is looked at. For a refused call there are two counties made
 * alike, of which one alone is asked to do what it refuses: all that can be told of the two must stay alike.
 */
public final class RefusalTest extends Trial {
    private static final int[] REFUSALS = {BAD, NO, FULL, NOTHING, KIND, INDEX, SIZE};
    private static final int PLACES_WATCHED = 7;

    /** How a county is made ahead of a row. */
    private enum Stock { NEW, SOME, ALL }

    private static GooseCounty made(Stock stock, boolean waiting) {
        if (stock == Stock.NEW) {
            return new GooseCounty();
        }
        GooseCounty x = stocked(stock);
        x.keep();
        tellDays(x, stocked(stock), !waiting ? 0 : stock == Stock.ALL ? 30 : 3);
        x.days(1);
        x.needs(3, 7);
        x.rule(0, 21);
        x.turns(0, SLEEPER);
        type(x, stock == Stock.ALL ? "fee" + " ".repeat(92) + "b" : "fee b+3");
        return x;
    }

    private static GooseCounty stocked(Stock stock) {
        GooseCounty x = new GooseCounty();
        int geese = stock == Stock.ALL ? 10 : 6;
        for (int g = 0; g < geese; g++) {
            x.goose(g % 6, 60 + g, 20 + g, (g + 3) % 6);
        }
        law(x, "look g-a/3");
        law(x, "fee h*100+b");
        law(x, "fine g*2+s");
        for (int t = 3; stock == Stock.ALL && t < 14; t++) {
            law(x, "fee h*100+b");
        }
        sheetsAndSlots(x);
        x.rule(1, 30);
        x.needs(4, 5);
        x.days(4);
        return x;
    }

    /** Sheets: 5 shorts, 4 floats of which one is no number, none, 1 short. Slots: goose 3, both sheets, a number, nothing. */
    private static void sheetsAndSlots(GooseCounty x) {
        x.sheet(0, 0, 5);
        x.sheet(1, 1, 4);
        x.sheet(3, 0, 1);
        for (int k = 0; k < 4; k++) {
            x.mark(0, k, 5 + k);
            x.mark(1, k, k == 2 ? NONE : k * 1000);
        }
        x.lay(0, 1, 3);
        x.lay(1, 2, 0);
        x.lay(2, 2, 1);
        x.lay(3, 3, 17);
    }

    /** Tells the days that come, as its twin goes through them. */
    private static void tellDays(GooseCounty x, GooseCounty twin, int days) {
        for (int d = 0; d < days; d++) {
            twin.days(1);
            x.tell(twin.county(0));
            x.tell(twin.county(5));
        }
    }

    /** All that can be told of a county, its image among it. */
    private static final class Watch {
        private final int[] answers = new int[800];
        private int many = 0;

        Watch(GooseCounty x) {
            add(x.count(5));
            add(x.count(6));
            county(x);
            add(x.check(x.count(0) > 6 ? 30 : 3));
            slots(x);
            for (int sheet = 0; sheet < 4; sheet++) {
                add(x.lay(4, 2, sheet));
                items(x, 4);
            }
            add(x.text());
            add(x.fee());
            add(x.back());
            county(x);
        }

        private void add(int answer) {
            answers[many] = answer;
            many++;
        }

        private void county(GooseCounty x) {
            for (int what = 0; what < 8; what++) {
                add(what == 5 || what == 6 ? 0 : x.count(what));
                add(x.county(what));
            }
            int geese = x.count(0);
            for (int g = 0; g < geese; g++) {
                for (int what = 0; what < 5; what++) {
                    add(x.told(g, what));
                }
            }
            for (int yard = 0; yard < 6; yard++) {
                add(x.yardOf(yard, 0));
            }
            int texts = x.count(4);
            for (int text = 0; text < texts; text++) {
                add(x.textTold(text, 0) * 100 + x.textTold(text, 1));
            }
            for (int key = 0; key < 3; key++) {
                add(x.why(key));
            }
            add(x.fee());
            add(x.fine(0));
        }

        private void slots(GooseCounty x) {
            for (int slot = 0; slot < 5; slot++) {
                for (int kind = 0; kind < 6; kind++) {
                    add(x.ask(slot, kind));
                }
                items(x, slot);
                add(x.rest(slot, 1000003));
            }
        }

        private void items(GooseCounty x, int slot) {
            for (int place = 0; place < PLACES_WATCHED; place++) {
                add(x.item(slot, place));
            }
        }

        void alike(Watch other, String row) {
            for (int i = 0; i < answers.length; i++) {
                if (answers[i] != other.answers[i]) {
                    fail(row + " changed something: answer " + i + " is " + answers[i] + ", was " + other.answers[i]);
                    return;
                }
            }
        }
    }

    private static String last(String row) {
        return row.substring(row.lastIndexOf(';') + 1).trim();
    }

    private static void ahead(GooseCounty x, String row) {
        String[] calls = row.split(";");
        for (int i = 0; i < calls.length - 1; i++) {
            call(x, calls[i]);
        }
    }

    /** The last call of a row is refused with this answer, and changes nothing but what the document names. */
    private static void refused(Stock stock, String row, int answer) {
        GooseCounty x = made(stock, true);
        boolean usesNumbers = last(row).startsWith("check");
        GooseCounty untouched = made(stock, !usesNumbers);
        ahead(x, row);
        ahead(untouched, row);
        due(row, call(x, last(row)), answer);
        if (last(row).equals("text")) {
            untouched.trim(0);
        }
        new Watch(x).alike(new Watch(untouched), row);
    }

    private static void refused(String row, int answer) {
        refused(Stock.SOME, row, answer);
    }

    private static void taken(Stock stock, String row) {
        GooseCounty x = made(stock, true);
        ahead(x, row);
        int got = call(x, last(row));
        for (int refusal : REFUSALS) {
            if (got == refusal) {
                fail(row + " was refused with " + got);
            }
        }
    }

    /** The number that stands as % in the row may be least .. most; below that and above it the call is refused. */
    private static void edge(String row, int least, int most, int below, int above) {
        taken(Stock.SOME, row.replace("%", "" + least));
        taken(Stock.SOME, row.replace("%", "" + most));
        if (least > MIN) {
            refused(row.replace("%", "" + (least - 1)), below);
            refused(row.replace("%", "" + MIN), below);
        }
        if (most < MAX) {
            refused(row.replace("%", "" + (most + 1)), above);
            refused(row.replace("%", "" + MAX), above);
        }
    }

    private static void edge(String row, int least, int most) {
        edge(row, least, most, BAD, BAD);
    }

    private static void any(String row) {
        for (int v : new int[] {MIN, -1, 0, MAX, BAD, NONE}) {
            taken(Stock.SOME, row.replace("%", "" + v));
        }
    }

    private static void geese() {
        says("One more of GEESE: its number. BAD; FULL.");
        edge("goose % 0 0 0", 0, 5);
        edge("goose 0 % 0 0", 0, 99);
        edge("goose 0 0 % 0", 0, 99);
        edge("goose 0 0 0 %", 0, 5);
        refused(Stock.ALL, "goose 0 0 0 0", FULL);
        refused(Stock.ALL, "goose 6 0 0 0", BAD);
        refused(Stock.ALL, "goose 0 100 0 0", BAD);
        refused(Stock.ALL, "goose 0 0 -1 0", BAD);
        refused(Stock.ALL, "goose 0 0 0 6", BAD);
        says("7 what it TALLIES, 8 WORTH. BAD.");
        edge("told % 0", 0, 5);
        edge("told 0 %", 0, 8);
        refused(Stock.NEW, "told 0 0", BAD);
        says("BAD: goose, kind; KIND: it is not of that KIND, nor of one under it.");
        edge("as % 0", 0, 5);
        edge("as 5 %", 0, 5);
        refused("as 1 3", KIND);
        refused("as 2 5", KIND);
        refused("as 3 6", BAD);
        refused("as 6 0", BAD);
        refused(Stock.NEW, "as 0 0", BAD);
        says("One is of another KIND from now on: what it was. BAD.");
        edge("turns % 0", 0, 5);
        edge("turns 0 %", 0, 5);
        refused(Stock.NEW, "turns 0 0", BAD);
        says("SIGHT (what 1), AGE (2), YARD (3), SAW (4) of one becomes v: what it was. BAD.");
        edge("set % 1 0", 0, 5);
        edge("set 0 % 0", 1, 4);
        edge("set 0 1 %", 0, 99);
        edge("set 0 2 %", 0, 99);
        edge("set 0 3 %", 0, 5);
        edge("set 0 4 %", 0, 9999);
        refused(Stock.NEW, "set 0 1 0", BAD);
    }

    private static void yards() {
        says("NEED of a YARD becomes v: what it was. BAD.");
        edge("needs % 0", 0, 5);
        edge("needs 0 %", 0, 99);
        says("4 1 if a BARGAIN would hold now, else 0. BAD.");
        edge("yardOf % 0", 0, 5);
        edge("yardOf 0 %", 0, 4);
        says("A RULE becomes v: what it was. BAD.");
        edge("rule % 0", 0, 1);
        edge("rule 0 %", 0, 99);
        edge("rule 1 %", 0, 100);
        refused("rule 2 100", BAD);
        says("how many came. BAD.");
        edge("deal %", 1, 10);
        refused(Stock.ALL, "deal 11", BAD);
        refused(Stock.ALL, "deal 0", BAD);
        says("z becomes v: what it was.");
        any("seed %");
        says("DRIVE to a YARD: what 0 the set, 1 how many. BAD; NONE: by none.");
        edge("drive % 0", 0, 5);
        edge("drive 0 %", 0, 1);
        refused("needs 0 99; drive 0 0", NONE);
        refused("needs 0 99; drive 0 1", NONE);
        refused("needs 0 99; drive 0 2", BAD);
        refused("needs 0 99; drive 0 -1", BAD);
        refused(Stock.NEW, "drive 0 0", NONE);
        refused(Stock.NEW, "drive 6 0", BAD);
    }

    private static void days() {
        says("A BARGAIN in a YARD now: 1 if it holds, else 0. BAD.");
        edge("strike %", 0, 5);
        says("by how much HELD is more. BAD.");
        edge("days %", 1, 100);
        says("5 SAW of all, together, 6 ELDEST. BAD; NONE: (what 6) there are no GEESE.");
        edge("county %", 0, 6);
        refused(Stock.NEW, "county 6", NONE);
        refused(Stock.NEW, "county 7", BAD);
        refused(Stock.NEW, "county -1", BAD);
    }

    private static void thoughts() {
        says("5 and k: SAW of GOOSE k. BAD: 5 and k of no GOOSE, too.");
        edge("behind % 0", 0, 100);
        edge("behind 1 %", 0, 10);
        taken(Stock.ALL, "behind 1 14");
        refused(Stock.ALL, "behind 1 15", BAD);
        taken(Stock.NEW, "behind 1 4");
        refused(Stock.NEW, "behind 1 5", BAD);
        says("HOLDS of a YARD. BAD; NONE: not by then.");
        edge("holds %", 0, 5);
        refused("needs 0 99; holds 0", NONE);
        refused(Stock.NEW, "holds 5", NONE);
        says("BAD: also one and the same; NONE: not by then.");
        edge("meets % 3", 0, 5);
        edge("meets 3 %", 0, 5);
        for (int g = 0; g < 6; g++) {
            refused("meets " + g + " " + g, BAD);
        }
        refused("set 2 3 0; set 5 3 1; meets 2 5", NONE);
        refused("meets 6 6", BAD);
        says("PLACE of one, for n (1 .. 60): what 0 the YARD, 1 HELD then. BAD.");
        edge("place % 1 0", 0, 5);
        edge("place 0 % 0", 1, 60);
        edge("place 0 1 %", 0, 1);
        refused(Stock.NEW, "place 0 1 0", BAD);
        says("BECOMES of one, for n (1 .. 60): what 0 the KIND, 1 HELD then. BAD.");
        edge("becomes % 1 0", 0, 5);
        edge("becomes 0 % 0", 1, 60);
        edge("becomes 0 1 %", 0, 1);
        refused(Stock.NEW, "becomes 0 1 0", BAD);
        says("EYES for n (0 .. 60), v (0 .. 99999). BAD; NONE: with none.");
        edge("eyes % 0", 0, 60);
        edge("eyes 0 %", 0, 99999);
        refused("eyes 60 99999", NONE);
        refused("eyes 61 99999", BAD);
        refused("eyes 60 100000", BAD);
        says("LIKE by a SHEET: what 0 the one, 1 the differences, together. BAD; NOTHING; NONE: there are no GEESE.");
        edge("like % 0", 0, 3);
        edge("like 0 %", 0, 1);
        refused("like 2 0", NOTHING);
        refused("like 2 1", NOTHING);
        refused("like 2 2", BAD);
        refused("like 2 -1", BAD);
        refused(Stock.NEW, "like 0 0", NOTHING);
        refused(Stock.NEW, "like 4 0", BAD);
        refused(Stock.NEW, "like 0 2", BAD);
        refused(Stock.NEW, "sheet 0 0 3; like 0 0", NONE);
        refused(Stock.NEW, "sheet 0 0 3; like 0 1", NONE);
        refused(Stock.NEW, "sheet 0 0 3; like 0 2", BAD);
        says("What fine gives for one. BAD.");
        edge("fine %", 0, 5);
        refused(Stock.NEW, "fine 0", BAD);
    }

    private static void texts() {
        says("how many it has. FULL: it would have more than 96.");
        any("feed % 0 0");
        any("feed 0 % 0");
        any("feed 0 0 %");
        refused(Stock.ALL, "feed 0 0 0", FULL);
        refused(Stock.ALL, "trim 85; feed 0 0 0", FULL);
        taken(Stock.ALL, "trim 84; feed 0 0 0");
        says("THE TAPE keeps its first n bytes: n. BAD.");
        edge("trim %", 0, 7);
        taken(Stock.ALL, "trim 96");
        refused(Stock.ALL, "trim 97", BAD);
        refused(Stock.NEW, "trim 1", BAD);
        taken(Stock.NEW, "trim 0");
        says("THE TAPE is a TEXT: its number. -100 less the place of its FAULT; FULL.");
        refused("trim 0; text", -100);
        refused("trim 3; text", -103);
        refused("trim 6; text", -106);
        refused("trim 5; feed 0 0 0; text", -105);
        taken(Stock.SOME, "text");
        refused(Stock.ALL, "text", FULL);
        refused(Stock.ALL, "trim 95; text", -195);
        refused(Stock.ALL, "trim 0; text", -100);
        refused(Stock.NEW, "text", -100);
        says("1 how many NUMBERS and NAMES it has. BAD.");
        edge("textTold % 0", 0, 2);
        edge("textTold 0 %", 0, 1);
        taken(Stock.ALL, "textTold 13 1");
        refused(Stock.ALL, "textTold 14 1", BAD);
        refused(Stock.NEW, "textTold 0 0", BAD);
        says("The TEXT that counts for a KEY. BAD; NONE.");
        edge("why %", 0, 2);
        refused(Stock.NEW, "why 0", NONE);
        refused(Stock.NEW, "why 2", NONE);
        refused(Stock.NEW, "why 3", BAD);
        refused(Stock.NEW, "why -1", BAD);
    }

    private static void sheets() {
        says("BAD: sheet, sort, n above 24; SIZE.");
        edge("sheet % 0 5", 0, 3);
        edge("sheet 0 % 5", -1, 1);
        edge("sheet 0 0 %", 0, 24, SIZE, BAD);
        edge("sheet 0 1 %", 0, 24, SIZE, BAD);
        any("sheet 0 -1 %");
        refused("sheet 4 0 -1", BAD);
        refused("sheet -1 1 -1", BAD);
        refused("sheet 0 2 -1", BAD);
        refused("sheet 0 -2 -1", BAD);
        refused("sheet 4 -1 0", BAD);
        says("BAD: sheet; NOTHING; INDEX; KIND: NONE in a row of shorts; BAD: v of floats.");
        edge("mark % 0 1", 0, 3);
        edge("mark 0 % 1", 0, 4, INDEX, INDEX);
        edge("mark 1 % 1", 0, 3, INDEX, INDEX);
        edge("mark 1 0 %", -99999, 99999);
        taken(Stock.SOME, "mark 1 0 NONE");
        refused("mark 0 0 NONE", KIND);
        refused("mark 1 0 BAD", BAD);
        refused("mark 1 0 NO", BAD);
        refused("mark 2 0 1", NOTHING);
        refused("mark 4 -1 NONE", BAD);
        refused("mark -1 0 1", BAD);
        refused("mark 2 -1 NONE", NOTHING);
        refused("mark 2 99 100000", NOTHING);
        refused("mark 0 5 NONE", INDEX);
        refused("mark 1 4 100000", INDEX);
        refused("mark 1 -1 100000", INDEX);
        refused("sheet 0 0 0; mark 0 0 1", INDEX);
        says("how many are otherwise then. BAD; NOTHING.");
        edge("pour %", 0, 3);
        refused("pour 2", NOTHING);
        refused(Stock.NEW, "pour 4", BAD);
        refused(Stock.NEW, "pour 3", NOTHING);
        says("(of places that are no GOOSE all numbers are not). BAD; NOTHING; NONE: there is none.");
        edge("reads %", 0, 3);
        refused("reads 2", NOTHING);
        refused("sheet 2 0 0; reads 2", NONE);
        refused(Stock.NEW, "reads 4", BAD);
        refused(Stock.NEW, "reads 0", NOTHING);
    }

    private static void copies() {
        says("BAD; NOTHING; KIND: they are not of one sort; INDEX (also if many is below 0).");
        edge("copy % 0 0 0 1", 0, 3);
        edge("copy 0 0 % 0 1", 0, 3);
        edge("copy 0 % 0 0 1", 0, 4, INDEX, INDEX);
        edge("copy 0 0 0 % 1", 0, 4, INDEX, INDEX);
        edge("copy 0 % 0 0 0", 0, 5, INDEX, INDEX);
        edge("copy 0 0 0 % 0", 0, 5, INDEX, INDEX);
        edge("copy 0 0 0 0 %", 0, 5, INDEX, INDEX);
        edge("copy 0 2 0 0 %", 0, 3, INDEX, INDEX);
        edge("copy 0 0 0 2 %", 0, 3, INDEX, INDEX);
        edge("copy 0 0 3 0 %", 0, 1, INDEX, INDEX);
        edge("copy 3 0 0 0 %", 0, 1, INDEX, INDEX);
        refused("copy 0 MAX 0 0 MAX", INDEX);
        refused("copy 0 0 0 MAX MAX", INDEX);
        refused("copy 0 MAX 0 MAX 1", INDEX);
        refused("copy 4 0 2 0 1", BAD);
        refused("copy 2 0 4 0 1", BAD);
        refused("copy -1 0 1 9 -1", BAD);
        refused("copy 2 0 0 0 1", NOTHING);
        refused("copy 0 0 2 0 1", NOTHING);
        refused("copy 2 9 2 9 -1", NOTHING);
        refused("copy 2 0 1 0 9", NOTHING);
        refused("copy 0 0 1 0 1", KIND);
        refused("copy 1 0 0 0 1", KIND);
        refused("copy 0 9 1 0 1", KIND);
        refused("copy 0 0 1 -1 1", KIND);
        refused("copy 0 0 1 0 -1", KIND);
        refused("copy 0 0 1 0 0", KIND);
    }

    private static void slots() {
        says("BAD: slot, thing, k; NOTHING: that SHEET is MISSING.");
        edge("lay % 3 1", 0, 4);
        edge("lay 0 % 0", 0, 3);
        edge("lay 0 1 %", 0, 5);
        edge("lay 0 2 %", 0, 3);
        any("lay 0 3 %");
        any("lay 0 0 %");
        refused("lay 0 2 2", NOTHING);
        refused("lay 4 2 2", NOTHING);
        refused("lay 5 2 2", BAD);
        refused("lay -1 2 2", BAD);
        refused("lay 0 2 4", BAD);
        refused("lay 0 4 2", BAD);
        refused(Stock.NEW, "lay 0 1 0", BAD);
        refused(Stock.NEW, "lay 0 2 0", NOTHING);
        says("taken for one of a KIND (0 .. 5). BAD; NOTHING; KIND: it is no GOOSE, or not of that KIND, nor of one under it.");
        edge("lay 4 1 1; ask % 1", 0, 4);
        edge("lay 0 1 5; ask 0 %", 0, 5);
        refused("ask 4 0", NOTHING);
        refused("ask 4 6", BAD);
        refused("ask 4 -1", BAD);
        refused("ask 5 6", BAD);
        refused("ask 1 0", KIND);
        refused("ask 3 0", KIND);
        refused("ask 1 6", BAD);
        refused("ask 0 2", KIND);
        refused("ask 0 5", KIND);
        refused("lay 0 1 1; ask 0 3", KIND);
        says("BAD: slot; NOTHING; KIND: it is no SHEET; INDEX; KIND: NO NUMBER.");
        edge("lay 0 2 0; lay 4 2 0; item % 0", 0, 4);
        edge("item 1 %", 0, 4, INDEX, INDEX);
        edge("item 2 %", 0, 3, INDEX, INDEX);
        refused("item 5 -1", BAD);
        refused("item 4 -1", NOTHING);
        refused("item 4 0", NOTHING);
        refused("item 0 0", KIND);
        refused("item 0 99", KIND);
        refused("item 3 -1", KIND);
        refused("item 2 2", KIND);
        refused("sheet 0 0 0; lay 4 2 0; item 4 0", INDEX);
        says("BAD: slot; NOTHING; KIND: it is no number; NO: n is 0.");
        edge("lay 0 3 7; lay 4 3 7; rest % 3", 0, 4);
        refused("rest 3 0", NO);
        taken(Stock.SOME, "rest 3 1");
        taken(Stock.SOME, "rest 3 -1");
        taken(Stock.SOME, "rest 3 MIN");
        refused("rest 5 0", BAD);
        refused("rest 4 0", NOTHING);
        refused("rest 4 1", NOTHING);
        refused("rest 0 0", KIND);
        refused("rest 1 0", KIND);
        refused("rest 2 5", KIND);
    }

    private static void rowsAndImages() {
        says("One more number waits: how many. FULL: 60 wait.");
        any("tell %");
        refused(Stock.ALL, "tell 0", FULL);
        refused(Stock.ALL, "tell MIN", FULL);
        says("The numbers that wait (none do then, whatever is answered)");
        edge("check %", 1, 30);
        refused(Stock.ALL, "check 0", BAD);
        refused(Stock.ALL, "check 31", BAD);
        refused(Stock.NEW, "check 1", NO);
        refused(Stock.NEW, "check 30", NO);
        refused(Stock.NEW, "check 0", BAD);
        refused(Stock.NEW, "check 31", BAD);
        GooseCounty x = new GooseCounty();
        x.tell(5);
        due("without an image", x.check(1), NO);
        due("none waits", x.count(5), 0);
        x.tell(5);
        due("for no days", x.check(0), BAD);
        due("none waits", x.count(5), 0);
        says("All is as THE IMAGE: how many GEESE. NO: there is none.");
        refused(Stock.NEW, "back", NO);
        refused(Stock.NEW, "deal 3; days 5; needs 0 1; back", NO);
        taken(Stock.SOME, "back");
        taken(Stock.NEW, "keep; back");
        says("5 numbers that wait, 6 bytes of THE TAPE, 7 z. BAD.");
        edge("count %", 0, 7);
    }

    public static void main(String[] args) {
        geese();
        yards();
        days();
        thoughts();
        texts();
        sheets();
        copies();
        slots();
        rowsAndImages();
        end("all that is refused is refused as due, and changes nothing");
    }
}
