/** Promises 7 to 17 and 39 to 45, sentence by sentence: what there is, acts, the log, undo, the image, count. */
public final class CourtEdgesTest {
    private static final int[] OUTSIDE = {-1, Integer.MIN_VALUE, Integer.MAX_VALUE, 1 << 16, -6};
    private static final String BIRD = "bird falls 1 light 1 songs a moults 1";
    private static final String THREE = BIRD + ";" + BIRD + ";" + BIRD;
    private static final String FULL = "counsel 111111;counsel 111111;counsel 111111;counsel 111111";
    /** One falls from the top in one breath, drifting by a gust; one straight in two; one in eight. */
    private static final String FALLING = "bird falls 4 light 1 songs a moults 5;bird falls 4 light 0 songs b moults 1;"
        + "bird falls 1 light 0 songs c moults 0;counsel 999;counsel 999;case 0 1 present abc;case 1 0 present abc";
    private static final String NO_SUCH = "there is no such BIRD, COUNSEL, CASE, LEVEL, COLUMN.";
    private static final String TOLD_FIRST = "Of several exceptions the one told first is thrown;";
    private static final String NOTHING = "a call that throws changes nothing but the TAPE, where it is used up.";

    public static void main(String[] args) {
        bird();
        stock();
        matter();
        choices();
        ends();
        wind();
        movesBounds();
        movesParts();
        movesHighAndOver();
        movesSinks();
        movesCarried();
        callBounds();
        callCannotBe();
        callOfTheLastFeather();
        callDraws();
        callGoesRound();
        callEnds();
        callEndsLate();
        hour();
        blow();
        giveBounds();
        giveMost();
        appeal();
        weeksBounds();
        weeksMost();
        weeksOfTheYears();
        led();
        ledOfTheLatest();
        logBounds();
        logLatest();
        logBreath();
        seed();
        undoTwelve();
        undoEachAct();
        undoForgets();
        undoLeaves();
        image();
        back();
        backLeaves();
        count();
        Check.allSaid(7, 17);
        Check.allSaid(39, 45);
        Check.close("CourtEdgesTest");
    }

    private static FeatherYard full() {
        String cases = "case 0 1 present f;".repeat(11) + "case 3 2 present abcdef";
        return Check.yard(THREE, THREE, FULL, cases);
    }

    private static FeatherYard falling(String more) {
        return Check.yard(FALLING, more);
    }

    private static void bird() {
        FeatherYard x = full();
        Check.says(7, NO_SUCH);
        Check.due("the last bird", 1, () -> x.bird(5, 0));
        Check.index("the 7th bird", () -> x.bird(6, 0));
        Check.index("of none", () -> new FeatherYard().bird(0, 0));
        for (int n : OUTSIDE) {
            Check.index("bird " + n, () -> x.bird(n, 0));
        }
        Check.says(7, "Of a BIRD what 0 FALLS, 1 LIGHT, 2 SONGS, as bits, 3 MOULTS. NoSuchElementException: another what.");
        Check.due("what 3", 1, () -> x.bird(0, 3));
        Check.element("what 4", () -> x.bird(0, 4));
        for (int n : OUTSIDE) {
            Check.element("what " + n, () -> x.bird(0, n));
        }
        Check.says(7, TOLD_FIRST);
        Check.index("neither", () -> x.bird(6, 4));
    }

    private static void stock() {
        FeatherYard x = full();
        Check.says(8, NO_SUCH);
        Check.due("the last of the last", 1, () -> x.stock(3, 5));
        Check.index("the 5th counsel", () -> x.stock(4, 0));
        Check.index("the 7th bird", () -> x.stock(0, 6));
        for (int n : OUTSIDE) {
            Check.index("counsel " + n, () -> x.stock(n, 0));
            Check.index("bird " + n, () -> x.stock(0, n));
        }
        FeatherYard y = Check.yard(BIRD);
        Check.index("a bird without counsel", () -> y.stock(0, 0));
        Check.says(8, "COUNSEL (at most 4, numbered from 0 on): a STOCK of feathers of each BIRD, 0 to 99.");
        FeatherYard z = Check.yard(BIRD + ";counsel 0;counsel 9");
        Check.due("0", 0, () -> z.stock(0, 0));
        z.weeks(60);
        z.weeks(60);
        Check.due("99", 99, () -> z.stock(0, 0));
        Check.due("99", 99, () -> z.stock(1, 0));
    }

    private static void matter() {
        FeatherYard x = full();
        Check.says(9, NO_SUCH);
        Check.due("the last case", 3, () -> x.matter(11, 0));
        Check.index("the 13th case", () -> x.matter(12, 0));
        Check.index("of none", () -> new FeatherYard().matter(0, 0));
        for (int n : OUTSIDE) {
            Check.index("case " + n, () -> x.matter(n, 0));
        }
        Check.says(9, "Of a CASE what 0, 1 both COUNSEL, 2 PRESENT, as bits, 3 the END, 4, 5 CHOICES of both, as bits."
            + " NoSuchElementException: another what.");
        int[] want = {3, 2, 63, 0, 63, 63};
        for (int w = 0; w < want.length; w++) {
            int what = w;
            Check.due("what " + w, want[w], () -> x.matter(11, what));
        }
        Check.element("what 6", () -> x.matter(11, 6));
        for (int n : OUTSIDE) {
            Check.element("what " + n, () -> x.matter(11, n));
        }
        Check.says(9, TOLD_FIRST);
        Check.index("neither", () -> x.matter(12, 6));
    }

    private static void choices() {
        FeatherYard x = Check.yard(THREE + ";counsel 102;counsel 010;case 0 1 present bc;case 0 1 present a");
        Check.says(9, "each chooses a BIRD that was PRESENT and of which there is a feather in the own STOCK.");
        Check.due("not present: 0; no feather: 1", 4, () -> x.matter(0, 4));
        Check.due("no feather: 2", 2, () -> x.matter(0, 5));
        Check.due("one feather is enough", 1, () -> x.matter(1, 4));
        Check.due("none", 0, () -> x.matter(1, 5));
        x.give(0, 1, 2, 1);
        Check.due("one is left", 4, () -> x.matter(0, 4));
        Check.due("one came", 6, () -> x.matter(0, 5));
        x.give(0, 1, 2, 1);
        Check.due("none is left", 0, () -> x.matter(0, 4));
    }

    private static void ends() {
        Check.says(9, "an END: 0 open, 1 the first one has it, 2 the second one, 3 a marriage, 4 as if they had never met.");
        FeatherYard x = falling("yard 7 to 7");
        Check.due("open", 0, () -> x.matter(1, 3));
        int[][] calls = {{1, 2, 1}, {2, 1, 2}, {1, 1, 3}, {2, 2, 3}};
        for (int[] c : calls) {
            x.call(1, c[0], c[1]);
            Check.due("called with " + c[0] + " and " + c[1], c[2], () -> x.matter(1, 3));
            Check.due("the other case", 0, () -> x.matter(0, 3));
            x.appeal(1);
            Check.due("opened again", 0, () -> x.matter(1, 3));
        }
        Check.tellCourt(x, "yard 8 to 8");
        x.call(1, 1, 2);
        Check.due("never met", 4, () -> x.matter(1, 3));
        Check.says(9, "Of a CASE what 0, 1 both COUNSEL,");
        Check.due("the first one", 1, () -> x.matter(1, 0));
        Check.due("the second one", 0, () -> x.matter(1, 1));
    }

    private static void wind() {
        FeatherYard x = Check.yard("wind 0 east 1;wind 12 west 1");
        Check.says(10, "`int wind(int level) throws IndexOutOfBoundsException`: WIND of a LEVEL (0 to 12).");
        Check.due("the ground", 1, () -> x.wind(0));
        Check.due("the highest", -1, () -> x.wind(12));
        Check.index("level 13", () -> x.wind(13));
        for (int n : OUTSIDE) {
            Check.index("level " + n, () -> x.wind(n));
        }
    }

    private static void movesBounds() {
        FeatherYard x = Check.yard(BIRD);
        Check.layDown(x, "east 1 if breath > 6;east 2 if column > 14;east 4 if level > 11;drop 3 if level < 2 and column < 1");
        Check.says(11, "A feather at a LEVEL (1 to 12) and COLUMN, so many BREATHS (0 to 7) gone by:");
        Check.due("the most of all", 7, () -> x.moves(0, 12, 15, 7, true));
        Check.due("less breaths", 6, () -> x.moves(0, 12, 15, 6, true));
        Check.due("the least of all", 4, () -> x.moves(0, 1, 0, 0, false));
        Check.due("a column more", 1, () -> x.moves(0, 1, 1, 0, false));
        Check.index("the ground", () -> x.moves(0, 0, 0, 0, false));
        Check.index("level 13", () -> x.moves(0, 13, 0, 0, false));
        Check.index("column 16", () -> x.moves(0, 1, 16, 0, false));
        Check.index("bird 1", () -> x.moves(1, 1, 0, 0, false));
        for (int n : OUTSIDE) {
            Check.index("level " + n, () -> x.moves(0, n, 0, 0, false));
            Check.index("column " + n, () -> x.moves(0, 1, n, 0, true));
            Check.index("bird " + n, () -> x.moves(n, 1, 0, 0, true));
        }
        Check.says(11, "IllegalArgumentException: so many are none.");
        Check.argument("8 breaths", () -> x.moves(0, 1, 0, 8, false));
        for (int n : OUTSIDE) {
            Check.argument("breath " + n, () -> x.moves(0, 1, 0, n, true));
        }
        Check.says(11, TOLD_FIRST);
        Check.index("no bird, no breath", () -> x.moves(1, 1, 0, 8, false));
        Check.index("no level, no breath", () -> x.moves(0, 13, 0, 8, false));
        Check.index("no column, no breath", () -> x.moves(0, 1, 16, 8, false));
    }

    /** Of a feather (bird, level, column, breath) the sum is just that. */
    private static void part(FeatherYard x, String sum, String is, int... of) {
        String law = "east 1 if " + sum + " + 1 > " + is + " and " + sum + " < " + is + " + 1";
        Check.due(law, 1, () -> Check.law(x, law));
        Check.due(sum + " is " + is, 1, () -> x.moves(of[0], of[1], of[2], of[3], true));
    }

    private static void movesParts() {
        Check.says(11, "Of a feather: bird: its number; light: LIGHT; breath: how many went by;");
        String still = "bird falls 1 light 0 songs a moults 0";
        FeatherYard x = Check.yard(still + ";bird falls 1 light 3 songs a moults 0;" + still + ";" + still + ";" + still + ";" + still);
        part(x, "bird", "0", 0, 8, 7, 0);
        part(x, "bird", "5", 5, 8, 7, 0);
        part(x, "light", "0", 0, 8, 7, 0);
        part(x, "light", "3", 1, 8, 7, 0);
        part(x, "breath", "0", 0, 8, 7, 0);
        part(x, "breath", "7", 0, 8, 7, 7);
        Check.says(11, "PART: NUMBER | bird | level | column | light | hour | breath.");
        part(x, "level", "1", 0, 1, 7, 0);
        part(x, "level", "12", 0, 12, 7, 0);
        part(x, "column", "0", 0, 8, 0, 0);
        part(x, "column", "15", 0, 8, 15, 0);
        x.hour(0);
        part(x, "hour", "0", 0, 8, 7, 0);
        x.hour(23);
        part(x, "hour", "23", 0, 8, 7, 0);
        part(x, "0", "000", 0, 8, 7, 0);
        part(x, "999", "998 + 1", 0, 8, 7, 0);
        Check.says(11, "SUM: PART { + PART };");
        part(x, "999 + 999 + 1 + 0", "998 + 998 + 3", 0, 8, 7, 0);
        part(x, "bird + level + column + light + hour + breath", "61", 1, 12, 15, 7);
        Check.says(11, "C: ALL { or ALL }; ALL: ATOM { and ATOM }; ATOM: not ATOM | ( C ) | high | over |");
        String[][] due = {{"high or over and 1 < 0", "1"}, {"1 < 0 and high or high", "1"}, {"(high or over) and 1 < 0", "0"},
            {"1 < 0 and (high or high)", "0"}, {"not high or high", "1"}, {"not (high or high)", "0"}, {"not 1 < 0 and high", "1"},
            {"high and not high", "0"}, {"high and not over", "1"}, {"1 < 0 or not high", "0"}, {"over or not over", "1"},
            {"not (high and not (over or not high))", "0"}, {"not not high", "1"}, {"not high and 1 < 0", "0"},
            {"1 < 0 or 1 < 0 or high", "1"}, {"high and high and 1 < 0", "0"}};
        for (String[] d : due) {
            Check.due("law of " + d[0], 1, () -> Check.law(x, "east 1 if " + d[0]));
            Check.due(d[0], d[1], () -> x.moves(0, 8, 0, 0, true));
        }
        Check.says(11, "( and not within one another at most 6 deep.");
        String deep = "1<0 or high and (".repeat(6);
        String[][] deepest = {{deep + "0+1<1+1" + ")".repeat(6), "1"}, {deep + "0+1<1+0" + ")".repeat(6), "0"},
            {"not not not not not not 0+1<1+1", "1"}, {"not not not not not 0+1<1+1", "0"}};
        for (String[] d : deepest) {
            Check.layDown(x, "east 1 if " + d[0]);
            Check.due(d[0], d[1], () -> x.moves(0, 8, 0, 0, true));
        }
    }

    private static void movesHighAndOver() {
        FeatherYard x = Check.yard(BIRD);
        Check.layDown(x, "east 1 if high;west 2 if over");
        Check.says(11, "high: LEVEL is above the half of the TOP (rounded down);");
        int[][] tops = {{8, 4, 0}, {8, 5, 1}, {7, 3, 0}, {7, 4, 1}, {1, 1, 1}, {2, 1, 0}, {2, 2, 1}, {12, 6, 0}, {12, 7, 1},
            {11, 5, 0}, {11, 6, 1}};
        for (int[] t : tops) {
            FeatherYard y = Check.yard(BIRD, "tower 7 top " + t[0]);
            Check.layDown(y, "east 1 if high");
            Check.due("top " + t[0] + " level " + t[1], t[2], () -> y.moves(0, t[1], 0, 0, true));
        }
        Check.due("above the top is high, too", 1, () -> x.moves(0, 12, 0, 0, true));
        Check.says(11, "over: its COLUMN is in THE YARD.");
        Check.due("column 4", 0, () -> x.moves(0, 1, 4, 0, true));
        Check.due("column 5", -2, () -> x.moves(0, 1, 5, 0, true));
        Check.due("column 9", -2, () -> x.moves(0, 1, 9, 0, true));
        Check.due("column 10", 0, () -> x.moves(0, 1, 10, 0, true));
        Check.tellCourt(x, "yard 0 to 0");
        Check.due("column 0", -2, () -> x.moves(0, 1, 0, 0, true));
        Check.due("column 1", 0, () -> x.moves(0, 1, 1, 0, true));
        Check.tellCourt(x, "yard 15 to 15");
        Check.due("column 15", -2, () -> x.moves(0, 1, 15, 0, true));
        Check.due("column 14", 0, () -> x.moves(0, 1, 14, 0, true));
        Check.says(11, "SUM < SUM | SUM > SUM.");
        Check.layDown(x, "east 1 if level < 5;east 2 if level > 5;west 1 if 5 < level;west 2 if 5 > level");
        Check.due("as many are neither", 0, () -> x.moves(0, 5, 0, 0, true));
        Check.due("one less", -1, () -> x.moves(0, 4, 0, 0, true));
        Check.due("one more", 1, () -> x.moves(0, 6, 0, 0, true));
    }

    private static void movesSinks() {
        Check.says(11, "SINKS by: FALLS and the sum of N of all drop LINES that hold, less that of all lift LINES"
            + " (0 at least, 12 at most).");
        FeatherYard x = Check.yard("bird falls 4 light 1 songs a moults 0;bird falls 0 light 0 songs a moults 0");
        Check.due("FALLS alone", 4, () -> x.moves(0, 8, 7, 0, false));
        Check.due("FALLS of 0", 0, () -> x.moves(1, 8, 7, 0, false));
        int[][] due = {{7, 0, 11}, {8, 0, 12}, {9, 0, 12}, {0, 3, 1}, {0, 4, 0}, {0, 5, 0}, {9, 9, 4}};
        for (int[] d : due) {
            Check.layDown(x, "drop " + d[0] + ";lift " + d[1]);
            Check.due("drop " + d[0] + " lift " + d[1], d[2], () -> x.moves(0, 8, 7, 0, false));
        }
        Check.layDown(x, "drop 9;drop 9;drop 9;drop 9;lift 9;lift 9;lift 9");
        Check.due("all sums ahead of the bounds", 12, () -> x.moves(0, 8, 7, 0, false));
        Check.layDown(x, "lift 9;lift 9;drop 9;drop 5");
        Check.due("all sums ahead of the bounds", 0, () -> x.moves(0, 8, 7, 0, false));
        Check.layDown(x, "lift 9;drop 9;drop 1");
        Check.due("a lift line first", 5, () -> x.moves(0, 8, 7, 0, false));
    }

    private static void movesCarried() {
        Check.says(11, "CARRIED by: WIND of its LEVEL times LIGHT, and the sum of N of all east LINES, less that of all west LINES.");
        FeatherYard x = Check.yard("bird falls 1 light 3 songs a moults 0;bird falls 1 light 0 songs a moults 0",
            "wind 12 east 3;wind 1 west 3;wind 2 east 1");
        Check.due("the most wind", 9, () -> x.moves(0, 12, 7, 0, true));
        Check.due("the least wind", -9, () -> x.moves(0, 1, 7, 0, true));
        Check.due("without light", 0, () -> x.moves(1, 12, 7, 0, true));
        Check.due("the wind of its level", 3, () -> x.moves(0, 2, 7, 0, true));
        Check.layDown(x, "east 9;".repeat(11) + "east 9");
        Check.due("no bound above", 117, () -> x.moves(0, 12, 7, 0, true));
        Check.due("without light lines carry it, too", 108, () -> x.moves(1, 12, 7, 0, true));
        Check.layDown(x, "west 9;".repeat(11) + "west 9");
        Check.due("no bound below", -117, () -> x.moves(0, 1, 7, 0, true));
    }

    private static void callBounds() {
        FeatherYard x = full();
        Check.says(12, NO_SUCH);
        Check.index("the 13th case", () -> x.call(12, 0, 0));
        Check.index("the 7th bird", () -> x.call(11, 6, 0));
        Check.index("the 7th bird as the other", () -> x.call(11, 0, 6));
        for (int n : OUTSIDE) {
            Check.index("case " + n, () -> x.call(n, 0, 0));
            Check.index("bird " + n, () -> x.call(11, n, 0));
            Check.index("other " + n, () -> x.call(11, 0, n));
        }
        Check.says(12, TOLD_FIRST);
        Check.index("not present, no such other", () -> x.call(0, 0, 6));
        Check.index("no such bird, the other not present", () -> x.call(0, 6, 0));
        Check.due("the last of all", 1, () -> x.call(11, 5, 5) > 0);
        Check.index("not open, no such bird", () -> x.call(11, 6, 5));
        Check.index("not open, no such other", () -> x.call(11, 5, 6));
    }

    private static void callCannotBe() {
        FeatherYard x = Check.yard(THREE + ";counsel 120;counsel 021;case 0 1 present ab;case 0 1 present abc");
        String before = Check.told(x);
        Check.says(12, "IllegalStateException: it is not open, one of both BIRDS was not PRESENT, or there is no feather of it"
            + " in the STOCK.");
        Check.state("the one was not present", () -> x.call(0, 2, 1));
        Check.state("the other was not present", () -> x.call(0, 0, 2));
        Check.state("no feather of the one, though the other counsel has", () -> x.call(1, 2, 1));
        Check.state("no feather of the other, though the first counsel has", () -> x.call(1, 0, 0));
        Check.says(12, NOTHING);
        Check.due("nothing", before, () -> Check.told(x));
        Check.says(12, "it is not open,");
        Check.due("it can be", 1, () -> x.call(0, 1, 1) > 0);
        String behind = Check.told(x);
        Check.state("not open", () -> x.call(0, 1, 1));
        Check.due("nothing", behind, () -> Check.told(x));
        x.appeal(0);
        Check.due("open again", 1, () -> x.call(0, 1, 1) > 0);
    }

    private static void callOfTheLastFeather() {
        FeatherYard x = Check.yard(BIRD + ";counsel 1;counsel 2;case 0 1 present a;case 1 0 present a");
        Check.says(12, "(of their STOCKS: 1 less each)");
        x.call(0, 0, 0);
        Check.due("the last one went", 0, () -> x.stock(0, 0));
        Check.due("one is left", 1, () -> x.stock(1, 0));
        Check.state("no feather for the second one", () -> x.call(1, 0, 0));
        x.appeal(0);
        Check.state("no feather for the first one", () -> x.call(0, 0, 0));
        x.give(1, 0, 0, 1);
        Check.state("none for the second one now", () -> x.call(0, 0, 0));
        x.weeks(1);
        Check.due("a feather each", 1, () -> x.call(0, 0, 0) > 0);
        Check.due("none below 0", 0, () -> x.stock(1, 0));
    }

    private static int next(int seed) {
        return (int) (1103515245L * seed + 12345L);
    }

    private static int gust(int seed) {
        return (int) (((seed & 0xffffffffL) >> 16) % 32768 % 3) - 1;
    }

    private static int drawn(int seed, int times) {
        int s = seed;
        for (int i = 0; i < times; i++) {
            s = next(s);
        }
        return s;
    }

    private static void callDraws() {
        Check.says(12, "(each drawn only while that one still flies)");
        int[][] due = {{0, 0, 4}, {0, 1, 4}, {1, 1, 4}, {0, 2, 10}, {2, 0, 10}, {2, 2, 16}};
        for (int[] d : due) {
            FeatherYard x = falling("yard 7 to 7");
            x.call(0, d[0], d[1]);
            Check.due("draws of " + d[0] + " and " + d[1], drawn(1, d[2]), () -> x.seed(1));
        }
        Check.says(12, "(The feathers fly on till both are down, BLOWN OFF or 8 BREATHS went by.)");
        FeatherYard off = falling("yard 7 to 7");
        Check.layDown(off, "east 9 if bird > 1 and breath > 2");
        off.call(0, 1, 2);
        Check.due("blown off in the fourth", drawn(1, 6), () -> off.seed(1));
        FeatherYard air = falling("tower 7 top 12");
        air.call(0, 2, 2);
        Check.due("8 breaths of both", drawn(1, 16), () -> air.seed(1));
        FeatherYard good = falling("yard 7 to 7");
        Check.due("the first one has it", 1, () -> good.call(0, 1, 2));
        Check.due("the second one flies on", drawn(1, 10), () -> good.seed(1));
    }

    private static void callGoesRound() {
        Check.says(12, "DRAW: SEED is 1103515245 times SEED and 12345, as an int that goes round; bits 16 to 30");
        FeatherYard x = falling("tower 7 top 4;yard 7 to 7");
        int[] seeds = {0, 1, -1, Integer.MAX_VALUE, Integer.MIN_VALUE, 65536, -65536, 2, 123456789};
        for (int seed : seeds) {
            int one = gust(next(seed));
            int two = gust(next(next(seed)));
            int end = one == 0 ? two == 0 ? 3 : 1 : two == 0 ? 2 : 4;
            x.seed(seed);
            Check.due("call from " + seed, end, () -> x.call(0, 0, 0));
            Check.due("the seed behind " + seed, drawn(seed, 2), () -> x.seed(1));
            x.appeal(0);
        }
        Check.says(12, "the first one's GUST is DRAW modulo 3, less 1, then the second one's");
        int[] wanted = {4, 5, 6, 7, 8, 9, 10};
        for (int column : wanted) {
            FeatherYard y = falling("tower 7 top 4;yard " + column + " to " + column);
            boolean first = column == 7 + gust(next(1));
            boolean second = column == 7 + gust(next(next(1)));
            int end = first ? second ? 3 : 1 : second ? 2 : 4;
            Check.due("yard " + column, end, () -> y.call(0, 0, 0));
        }
    }

    private static void callEnds() {
        Check.says(12, "who is GOOD in an earlier BREATH than the other one has it; both in the same BREATH: a marriage;"
            + " none GOOD: as if they had never met.");
        FeatherYard x = falling("yard 7 to 7");
        Check.due("the first one is earlier", 1, () -> x.call(0, 1, 2));
        Check.due("the second one is earlier", 2, () -> x.call(1, 2, 1));
        x.appeal(0);
        Check.due("the same breath", 3, () -> x.call(0, 1, 1));
        x.appeal(0);
        Check.due("the same last breath", 3, () -> x.call(0, 2, 2));
        FeatherYard y = falling("yard 8 to 8");
        Check.due("both beside", 4, () -> y.call(0, 1, 2));
        Check.layDown(y, "east 9");
        Check.due("both blown off", 4, () -> y.call(1, 1, 2));
        y.appeal(0);
        Check.layDown(y, "lift 9");
        Check.due("both in the air", 4, () -> y.call(0, 1, 2));
        Check.layDown(y, "east 1 if breath < 1 and bird < 2");
        y.appeal(0);
        Check.due("the second one beside", 1, () -> y.call(0, 1, 2));
    }

    private static void callEndsLate() {
        Check.says(12, "Behind 8 BREATHS one that has not LANDED and is not BLOWN OFF is IN THE AIR for good.");
        FeatherYard x = falling("yard 7 to 7");
        Check.layDown(x, "east 1 if bird < 2 and breath < 1");
        Check.due("good in the 8th, the other beside in the 2nd", 2, () -> x.call(0, 1, 2));
        Check.due("its breath", 8, () -> x.log(0, 5));
        Check.due("good in the 8th, the other beside in the 2nd", 1, () -> x.call(1, 2, 1));
        Check.layDown(x, "east 9 if bird < 2");
        x.appeal(0);
        Check.due("good in the 8th, the other blown off in the 1st", 2, () -> x.call(0, 1, 2));
        FeatherYard y = falling("tower 7 top 9;yard 7 to 7");
        Check.due("one level more: in the air", 1, () -> y.call(0, 1, 2));
        y.appeal(0);
        Check.due("never good", 4, () -> y.call(0, 2, 2));
        Check.due("nobody", 0, () -> y.log(0, 5));
    }

    private static void hour() {
        FeatherYard x = new FeatherYard();
        Check.says(13, "`int hour(int n) throws IllegalArgumentException`: HOUR is told: what it was.");
        Check.due("the most", 12, () -> x.hour(23));
        Check.due("the least", 23, () -> x.hour(0));
        Check.due("the same", 0, () -> x.hour(0));
        Check.due("each is an act", 3, () -> x.count(14));
        Check.says(13, "HOUR is told: what it was. IllegalArgumentException: it is none.");
        Check.argument("hour 24", () -> x.hour(24));
        for (int n : OUTSIDE) {
            Check.argument("hour " + n, () -> x.hour(n));
        }
        Check.says(13, NOTHING);
        Check.due("hour", 0, () -> x.count(6));
        Check.due("acts", 3, () -> x.count(14));
    }

    private static void blow() {
        FeatherYard x = new FeatherYard();
        Check.says(14, "WIND of a LEVEL is told: what it was.");
        Check.due("the most", 0, () -> x.blow(0, 3));
        Check.due("the least", 3, () -> x.blow(0, -3));
        Check.due("the highest level", 0, () -> x.blow(12, -1));
        Check.due("no other level", 0, () -> x.wind(11));
        Check.due("what it was", -3, () -> x.blow(0, 0));
        Check.says(14, "WIND of a LEVEL is told: what it was. IllegalArgumentException: it is none.");
        Check.argument("4", () -> x.blow(0, 4));
        Check.argument("-4", () -> x.blow(0, -4));
        Check.argument("far above", () -> x.blow(0, Integer.MAX_VALUE));
        Check.argument("far below", () -> x.blow(0, Integer.MIN_VALUE));
        Check.says(14, NO_SUCH);
        Check.index("level 13", () -> x.blow(13, 0));
        for (int n : OUTSIDE) {
            Check.index("level " + n, () -> x.blow(n, 0));
        }
        Check.says(14, TOLD_FIRST);
        Check.index("neither", () -> x.blow(13, 4));
        Check.says(14, NOTHING);
        Check.due("wind", 0, () -> x.wind(0));
        Check.due("acts", 4, () -> x.count(14));
    }

    private static void giveBounds() {
        FeatherYard x = Check.yard(THREE + ";counsel 301;counsel 000;counsel 111");
        String before = Check.told(x);
        Check.says(15, "IllegalArgumentException: both are one, or n is none (1 to the STOCK).");
        Check.argument("both are one", () -> x.give(0, 0, 0, 1));
        Check.argument("0", () -> x.give(0, 1, 0, 0));
        Check.argument("more than the stock", () -> x.give(0, 1, 0, 4));
        Check.argument("of a stock of 0", () -> x.give(0, 1, 1, 1));
        Check.argument("0 of a stock of 0", () -> x.give(0, 1, 1, 0));
        for (int n : OUTSIDE) {
            Check.argument("n " + n, () -> x.give(0, 1, 0, n));
        }
        Check.says(15, NO_SUCH);
        Check.index("counsel 3", () -> x.give(3, 0, 0, 1));
        Check.index("other 3", () -> x.give(0, 3, 0, 1));
        Check.index("bird 3", () -> x.give(0, 1, 3, 1));
        for (int n : OUTSIDE) {
            Check.index("counsel " + n, () -> x.give(n, 0, 0, 1));
            Check.index("other " + n, () -> x.give(0, n, 0, 1));
            Check.index("bird " + n, () -> x.give(0, 1, n, 1));
        }
        Check.says(15, TOLD_FIRST);
        Check.index("both are one that is none", () -> x.give(3, 3, 0, 1));
        Check.index("both are one, no bird", () -> x.give(0, 0, 3, 1));
        Check.index("no bird, no n", () -> x.give(0, 1, 3, 0));
        Check.says(15, NOTHING);
        Check.due("nothing", before, () -> Check.told(x));
        Check.says(15, "n is none (1 to the STOCK).");
        Check.due("1", 1, () -> x.give(0, 1, 0, 1));
        Check.due("all that are left", 3, () -> x.give(0, 1, 0, 2));
        Check.due("none is left", 0, () -> x.stock(0, 0));
    }

    private static void giveMost() {
        FeatherYard x = Check.yard("bird falls 1 light 1 songs a moults 5;counsel 0;counsel 9;counsel 1");
        Check.says(15, "So many feathers go: how many the other one has then (99 at most).");
        x.weeks(18);
        Check.due("just 99", 99, () -> x.give(0, 1, 0, 1) + 0 * x.count(0));
        x.undo();
        Check.due("90 and 9", 99, () -> x.give(1, 0, 0, 9));
        Check.due("90 of 99 are left", 90, () -> x.stock(1, 0));
        Check.due("one beyond 99", 99, () -> x.give(2, 0, 0, 1));
        Check.due("it went all the same", 90, () -> x.stock(2, 0));
        Check.due("98 and 3", 99, () -> x.give(0, 1, 0, 12));
        Check.due("12 went", 87, () -> x.stock(0, 0));
    }

    private static void appeal() {
        FeatherYard x = falling("yard 7 to 7");
        Check.says(16, "`int appeal(int matter) throws IndexOutOfBoundsException, IllegalStateException`: Opened again:"
            + " the END it had. IllegalStateException: it is open.");
        Check.state("open at first", () -> x.appeal(0));
        x.call(0, 1, 2);
        Check.due("the first one's", 1, () -> x.appeal(0));
        Check.due("open", 0, () -> x.matter(0, 3));
        Check.state("open again", () -> x.appeal(0));
        x.call(0, 2, 1);
        Check.due("the second one's", 2, () -> x.appeal(0));
        x.call(0, 1, 1);
        Check.due("a marriage", 3, () -> x.appeal(0));
        Check.layDown(x, "east 9");
        x.call(0, 1, 1);
        Check.due("as if they had never met", 4, () -> x.appeal(0));
        Check.due("no feather comes back", 6, () -> x.stock(0, 1));
        Check.due("no row goes", 4, () -> x.count(13));
        Check.says(16, NO_SUCH);
        Check.index("case 2", () -> x.appeal(2));
        Check.index("of none", () -> new FeatherYard().appeal(0));
        for (int n : OUTSIDE) {
            Check.index("case " + n, () -> x.appeal(n));
        }
        Check.says(16, NOTHING);
        int acts = x.count(14);
        Check.state("open", () -> x.appeal(0));
        Check.due("acts", acts, () -> x.count(14));
    }

    private static void weeksBounds() {
        FeatherYard x = falling("");
        String before = Check.told(x);
        Check.says(17, "So many WEEKS more (1 to 60): feathers that came. IllegalArgumentException: they are none.");
        Check.argument("0", () -> x.weeks(0));
        Check.argument("61", () -> x.weeks(61));
        for (int n : OUTSIDE) {
            Check.argument("weeks " + n, () -> x.weeks(n));
        }
        Check.due("nothing", before, () -> Check.told(x));
        Check.due("1", 12, () -> x.weeks(1));
        Check.due("week 1", 1, () -> x.count(5));
        Check.due("60", 2 * (85 + 60), () -> x.weeks(60));
        Check.due("week 61", 61, () -> x.count(5));
        Check.due("without counsel", 0, () -> new FeatherYard().weeks(60));
        FeatherYard all = full();
        Check.due("a feather of each of six to each of four", 24, () -> all.weeks(1));
        Check.due("the last of the last", 2, () -> all.stock(3, 5));
        FeatherYard y = Check.yard(BIRD);
        Check.due("without counsel", 0, () -> y.weeks(1));
        Check.due("a week all the same", 1, () -> y.count(5));
    }

    private static void weeksMost() {
        Check.says(17, "each COUNSEL's STOCK of each BIRD is MOULTS more (99 at most).");
        FeatherYard x = Check.yard("bird falls 1 light 1 songs a moults 5;bird falls 1 light 1 songs a moults 0;counsel 40");
        Check.due("19 weeks", 95, () -> x.weeks(19));
        Check.due("just 99", 99, () -> x.stock(0, 0));
        Check.due("no moults", 0, () -> x.stock(0, 1));
        Check.due("no more comes", 0, () -> x.weeks(1));
        Check.due("99", 99, () -> x.stock(0, 0));
        FeatherYard y = Check.yard("bird falls 1 light 1 songs a moults 5;counsel 8");
        Check.due("18 weeks", 90, () -> y.weeks(18));
        Check.due("98", 98, () -> y.stock(0, 0));
        Check.due("1 of 5 comes", 1, () -> y.weeks(1));
        Check.due("99", 99, () -> y.stock(0, 0));
        FeatherYard z = Check.yard("bird falls 1 light 1 songs a moults 5;counsel 8");
        Check.due("91 of 300 come", 91, () -> z.weeks(60));
    }

    private static void weeksOfTheYears() {
        Check.says(17, "WEEK is 1 more (9999 at most).");
        FeatherYard x = Check.yard("bird falls 1 light 1 songs a moults 1;counsel 0;counsel 0");
        for (int i = 0; i < 166; i++) {
            x.weeks(60);
        }
        Check.due("week", 9960, () -> x.count(5));
        x.weeks(38);
        Check.due("week", 9998, () -> x.count(5));
        x.weeks(1);
        Check.due("week", 9999, () -> x.count(5));
        x.give(0, 1, 0, 50);
        Check.due("birds still moult", 1, () -> x.weeks(1));
        Check.due("week", 9999, () -> x.count(5));
        Check.due("an act", 1, x::undo);
        Check.due("no feather came", 49, () -> x.stock(0, 0));
        x.undo();
        x.undo();
        Check.due("undone", 9998, () -> x.count(5));
        x.weeks(60);
        Check.due("across 9999", 9999, () -> x.count(5));
        x.undo();
        Check.due("undone", 9998, () -> x.count(5));
    }

    private static void led() {
        FeatherYard x = falling("yard 7 to 7");
        Check.says(39, "LED: how many rows of THE LOG have a BIRD (as the one or the other, once each);");
        Check.due("no row", 0, () -> x.led(0, false));
        Check.due("no row", 0, () -> x.led(0, true));
        x.call(0, 1, 2);
        Check.due("as the one", 1, () -> x.led(1, false));
        Check.due("as the other", 1, () -> x.led(2, false));
        Check.due("as neither", 0, () -> x.led(0, false));
        x.call(1, 1, 1);
        Check.due("as both, once", 2, () -> x.led(1, false));
        Check.says(39, "in how many of these one that chose it has the CASE.");
        Check.due("a marriage is none's", 1, () -> x.led(1, true));
        Check.due("it had it not", 0, () -> x.led(2, true));
        x.appeal(0);
        x.call(0, 2, 1);
        Check.due("as the other one", 2, () -> x.led(1, true));
        Check.due("it had it not", 0, () -> x.led(2, true));
        FeatherYard y = falling("tower 7 top 4;yard 8 to 8");
        Check.due("the first one by the gusts", 1, () -> y.call(0, 0, 0));
        Check.due("one of both that chose it", 1, () -> y.led(0, true));
        Check.due("once", 1, () -> y.led(0, false));
        Check.says(39, NO_SUCH);
        Check.index("bird 3", () -> x.led(3, false));
        Check.index("of none", () -> new FeatherYard().led(0, true));
        for (int n : OUTSIDE) {
            Check.index("bird " + n, () -> x.led(n, true));
            Check.index("bird " + n, () -> x.led(n, false));
        }
    }

    private static void ledOfTheLatest() {
        FeatherYard x = falling("yard 7 to 7");
        Check.says(39, "THE LOG: the latest 60 CASES CALLED:");
        x.weeks(60);
        x.call(0, 1, 0);
        for (int i = 0; i < 59; i++) {
            x.appeal(0);
            x.call(0, 1, 1);
        }
        Check.due("the first row of 60", 1, () -> x.led(0, false));
        Check.due("60 rows", 60, () -> x.led(1, false));
        x.appeal(0);
        x.call(0, 1, 1);
        Check.due("is gone with the 61st", 0, () -> x.led(0, false));
        Check.due("60 rows", 60, () -> x.led(1, false));
    }

    private static void logBounds() {
        FeatherYard x = falling("yard 7 to 7");
        Check.says(40, "THE LOG so many ago (0 the latest) what 0 WEEK, 1 the CASE, 2, 3 both BIRDS, 4 the END, 5 the BREATH;"
            + " NONE without.");
        for (int w = 0; w <= 5; w++) {
            int what = w;
            Check.due("no row", -1, () -> x.log(0, what));
        }
        x.weeks(3);
        x.call(1, 2, 1);
        int[] want = {3, 1, 2, 1, 2, 2};
        for (int w = 0; w <= 5; w++) {
            int what = w;
            Check.due("what " + w, want[w], () -> x.log(0, what));
            Check.due("none ago " + w, -1, () -> x.log(1, what));
        }
        for (int n : OUTSIDE) {
            Check.due("ago " + n, -1, () -> x.log(n, 0));
        }
        Check.says(40, "NONE without. NoSuchElementException: another what.");
        Check.element("what 6", () -> x.log(0, 6));
        for (int n : OUTSIDE) {
            Check.element("what " + n, () -> x.log(0, n));
            Check.element("what " + n + " of no row", () -> x.log(5, n));
        }
        Check.element("what 6 of no row", () -> x.log(1, 6));
        Check.element("what 6 of no row", () -> x.log(-1, 6));
    }

    private static void logLatest() {
        FeatherYard x = falling("yard 7 to 7");
        Check.says(40, "THE LOG: the latest 60 CASES CALLED:");
        x.weeks(60);
        for (int i = 1; i <= 60; i++) {
            int rows = i;
            x.weeks(1);
            x.call(0, 1, i % 2);
            x.appeal(0);
            if (i == 1 || i >= 59) {
                Check.due("rows", rows, () -> x.count(13));
                Check.due("the oldest", 61, () -> x.log(rows - 1, 0));
                Check.due("none is older", -1, () -> x.log(rows, 0));
            }
        }
        x.weeks(1);
        x.call(0, 1, 1);
        Check.due("60 rows", 60, () -> x.count(13));
        Check.due("the latest", 121, () -> x.log(0, 0));
        Check.due("the oldest", 62, () -> x.log(59, 0));
        Check.due("none is older", -1, () -> x.log(60, 0));
        x.undo();
        Check.due("60 rows", 60, () -> x.count(13));
        Check.due("the latest of then", 120, () -> x.log(0, 0));
        Check.due("the oldest of then", 61, () -> x.log(59, 0));
    }

    private static void logBreath() {
        Check.says(40, "the END, the BREATH in which somebody was GOOD first (0: nobody).");
        FeatherYard x = falling("yard 7 to 7");
        x.call(0, 1, 2);
        Check.due("the earlier one's", 2, () -> x.log(0, 5));
        x.call(1, 2, 1);
        Check.due("the earlier one's", 2, () -> x.log(0, 5));
        x.appeal(0);
        x.call(0, 2, 2);
        Check.due("the 8th", 8, () -> x.log(0, 5));
        FeatherYard y = falling("tower 7 top 4;yard 7 to 7");
        y.call(0, 1, 1);
        Check.due("the 1st", 1, () -> y.log(0, 5));
        FeatherYard z = falling("yard 8 to 8");
        z.call(0, 1, 2);
        Check.due("nobody", 0, () -> z.log(0, 5));
        Check.due("the end", 4, () -> z.log(0, 4));
    }

    private static void seed() {
        FeatherYard x = new FeatherYard();
        Check.says(41, "`int seed(int n)`: SEED: what it was.");
        int was = 1;
        for (int n : new int[] {0, -1, Integer.MAX_VALUE, Integer.MIN_VALUE, 7, 7}) {
            int before = was;
            Check.due("seed " + n, before, () -> x.seed(n));
            was = n;
        }
        Check.says(41, "ACTS: a CASE is CALLED; HOUR is told; WIND of a LEVEL is told;");
        Check.due("no act", 0, () -> x.count(14));
        x.hour(1);
        x.seed(8);
        Check.due("one act", 1, () -> x.count(14));
        x.undo();
        Check.says(41, "all is as ahead of it (but for the TAPE, fault(), THE IMAGE).");
        Check.due("as ahead of the act", 7, () -> x.seed(1));
    }

    private static void undoTwelve() {
        FeatherYard x = new FeatherYard();
        Check.says(42, "the latest ACT not undone yet (12 are remembered; WEEKS of one call are one):");
        Check.due("none at first", 0, x::undo);
        Check.says(42, "`boolean undo()`: UNDONE: whether there was one.");
        Check.due("none that is remembered", 0, x::undo);
        Check.says(42, "the latest ACT not undone yet (12 are remembered; WEEKS of one call are one):");
        for (int n = 1; n <= 13; n++) {
            x.hour(n - 1);
            int acts = Math.min(12, n);
            Check.due("acts", acts, () -> x.count(14));
        }
        for (int n = 11; n >= 0; n--) {
            int due = n;
            Check.due("undo", 1, x::undo);
            Check.due("hour", due, () -> x.count(6));
            Check.due("acts", due, () -> x.count(14));
        }
        Check.due("the 13th is forgotten", 0, x::undo);
        Check.due("nothing happens", 0, () -> x.count(6));
        x.hour(5);
        x.hour(6);
        x.undo();
        x.hour(7);
        Check.due("two", 2, () -> x.count(14));
        x.undo();
        Check.due("the one behind the undone one", 5, () -> x.count(6));
        x.undo();
        Check.due("the one ahead of it", 0, () -> x.count(6));
        Check.due("none is left", 0, x::undo);
        x.weeks(60);
        Check.due("weeks are one act", 1, () -> x.count(14));
        x.undo();
        Check.due("all of them are undone", 0, () -> x.count(5));
    }

    private static void undoEachAct() {
        FeatherYard x = falling("yard 7 to 7");
        Check.says(42, "all is as ahead of it (but for the TAPE, fault(), THE IMAGE).");
        String[] told = new String[7];
        told[0] = Check.told(x);
        x.call(0, 0, 1);
        told[1] = Check.told(x);
        x.hour(0);
        told[2] = Check.told(x);
        x.blow(8, 1);
        told[3] = Check.told(x);
        x.give(0, 1, 2, 9);
        told[4] = Check.told(x);
        x.appeal(0);
        told[5] = Check.told(x);
        x.weeks(60);
        Check.due("six kinds of acts", 6, () -> x.count(14));
        for (int n = 5; n >= 0; n--) {
            String due = told[n];
            Check.due("undo", 1, x::undo);
            Check.due("all as behind " + n + " acts", due, () -> Check.told(x));
        }
        Check.due("none is left", 0, x::undo);
    }

    private static void undoForgets() {
        Check.says(42, "A text, going back: none are remembered.");
        FeatherYard x = falling("");
        x.hour(1);
        Check.tellCourt(x, "");
        Check.due("an empty text", 0, () -> x.count(14));
        Check.due("none", 0, x::undo);
        x.hour(2);
        Check.layDown(x, "");
        Check.due("an empty law", 0, x::undo);
        x.image();
        x.hour(3);
        x.hour(4);
        x.back();
        Check.due("going back", 0, x::undo);
        Check.due("hour", 2, () -> x.count(6));
        x.hour(5);
        x.image();
        Check.due("an image is kept", 1, () -> x.count(14));
        x.back();
        Check.due("back at once", 0, () -> x.count(14));
        x.hour(6);
        Check.court(x, "hour 24");
        Check.law(x, "drop 10");
        Check.put(x, "");
        x.songs(true);
        Check.put(x, "");
        x.ask();
        x.seed(3);
        x.end(0);
        Check.due("none of these", 1, x::undo);
        Check.due("hour", 5, () -> x.count(6));
        Check.says(42, NOTHING);
        Check.argument("hour 24", () -> x.hour(24));
        Check.argument("blow 4", () -> x.blow(0, 4));
        Check.index("blow at 13", () -> x.blow(13, 0));
        Check.argument("give 0", () -> x.give(0, 1, 0, 0));
        Check.state("appeal of an open one", () -> x.appeal(0));
        Check.argument("weeks 0", () -> x.weeks(0));
        Check.index("call of no case", () -> x.call(9, 0, 0));
        Check.due("none is an act", 0, x::undo);
    }

    private static void undoLeaves() {
        Check.says(42, "(but for the TAPE, fault(), THE IMAGE)");
        FeatherYard x = new FeatherYard();
        x.hour(1);
        x.feed(0x686f7572, 0x20392020, 0x20202020, 0x20202020, 0x20202020);
        x.undo();
        Check.due("the tape", 1, () -> x.end(20));
        Check.due("its bytes", 1, x::court);
        Check.due("hour", 9, () -> x.count(6));
        x.hour(2);
        x.image();
        x.undo();
        Check.due("undone", 9, () -> x.count(6));
        Check.due("the image is still kept", 1, x::back);
        Check.due("as it was", 2, () -> x.count(6));
    }

    private static void image() {
        FeatherYard x = falling("yard 7 to 7");
        Check.says(43, "THE IMAGE (one) of all may be kept, and gone back to");
        x.call(0, 1, 2);
        x.weeks(2);
        String first = Check.told(x);
        x.image();
        Check.due("nothing else happens", first, () -> Check.told(x));
        Check.due("acts can be undone", 1, x::undo);
        x.hour(3);
        x.image();
        x.hour(4);
        x.back();
        Check.due("the later one is kept alone", 3, () -> x.count(6));
        Check.due("week", 0, () -> x.count(5));
        FeatherYard y = new FeatherYard();
        y.image();
        Check.tellCourt(y, FALLING);
        Check.layDown(y, "drop 1");
        y.hour(1);
        y.back();
        Check.due("an image of a new object", Check.told(new FeatherYard()), () -> Check.told(y));
        Check.due("without a law", -1, () -> y.count(4));
    }

    private static void back() {
        FeatherYard x = falling("yard 7 to 7");
        Check.says(44, "One goes back to THE IMAGE: true; false, and nothing happens, if none was kept.");
        x.hour(3);
        String before = Check.told(x);
        Check.due("none was kept", 0, x::back);
        Check.due("nothing happens", before, () -> Check.told(x));
        Check.due("the act can still be undone", 1, x::undo);
        Check.layDown(x, "drop 1 if level > 6;east 1 if over");
        x.call(0, 1, 2);
        x.weeks(7);
        x.blow(12, -3);
        x.seed(-5);
        x.image();
        String kept = Check.told(x);
        Check.layDown(x, "lift 1");
        Check.tellCourt(x, BIRD + ";counsel 9999;case 2 0 present d;tower 1 top 1;yard 1 to 1;wind 12 east 3;hour 1");
        x.call(1, 0, 0);
        x.appeal(0);
        x.give(0, 1, 0, 1);
        x.seed(8);
        Check.due("back", 1, x::back);
        Check.due("all but acts", kept.replaceFirst(" 3 winds", " 0 winds"), () -> Check.told(x));
        Check.due("the law's condition", 1, () -> x.moves(2, 6, 0, 0, false));
        x.hour(22);
        Check.due("back again", 1, x::back);
        Check.due("all but acts", kept.replaceFirst(" 3 winds", " 0 winds"), () -> Check.told(x));
    }

    private static void backLeaves() {
        Check.says(44, "(but for the TAPE, fault() and THE IMAGE itself)");
        FeatherYard x = new FeatherYard();
        Check.put(x, "hour 9");
        x.image();
        Check.put(x, "hour 24");
        x.back();
        Check.due("the tape of now", 1, () -> x.end(7));
        Check.argument("its bytes", x::court);
        x.back();
        Check.due("fault", 5, x::fault);
        x.hour(7);
        Check.due("the image is still kept", 1, x::back);
        Check.due("as it was", 12, () -> x.count(6));
        Check.says(44, "A text, going back: none are remembered.");
        x.hour(7);
        x.back();
        Check.due("no act", 0, x::undo);
        Check.says(44, "THE COURT is told in texts (at most 12, one behind another)");
        for (int i = 0; i < 12; i++) {
            Check.tellCourt(x, "");
        }
        Check.due("12 texts", "throws.UnsupportedOperationException", () -> Check.court(x, ""));
        x.back();
        Check.due("none again", 1, () -> Check.court(x, ""));
    }

    private static void count() {
        FeatherYard x = full();
        Check.says(45, "NONE for another what.");
        Check.due("what 15", -1, () -> x.count(15));
        for (int n : OUTSIDE) {
            Check.due("what " + n, -1, () -> x.count(n));
        }
        Check.says(45, "0 BIRDS, 1 COUNSEL, 2 CASES, 3 texts of THE COURT, 4 LINES of THE LAW (NONE without one)");
        Check.due("no law", -1, () -> x.count(4));
        Check.layDown(x, "");
        Check.due("a law of no lines", 0, () -> x.count(4));
        int[] want = {6, 4, 12, 4};
        for (int w = 0; w < want.length; w++) {
            int what = w;
            Check.due("the most of " + w, want[w], () -> x.count(what));
        }
        Check.says(45, "5 WEEK, 6 HOUR, 7 THE TOWER's COLUMN, 8 its TOP, 9, 10 THE YARD,");
        FeatherYard y = Check.yard("tower 0 top 12;yard 1 to 14;hour 23");
        y.weeks(60);
        int[] most = {60, 23, 0, 12, 1, 14};
        for (int w = 0; w < most.length; w++) {
            int what = 5 + w;
            Check.due("count(" + what + ")", most[w], () -> y.count(what));
        }
        Check.says(45, "11 CASES that are open, as bits, 12 1 if CALM, 13 rows of THE LOG, 14 acts that can be UNDONE.");
        Check.due("all open", 4095, () -> x.count(11));
        x.call(11, 0, 0);
        Check.due("all but the last", 2047, () -> x.count(11));
        x.call(0, 5, 5);
        Check.due("all but two", 2046, () -> x.count(11));
        Check.due("no case", 0, () -> new FeatherYard().count(11));
        Check.says(45, "CALM: whether all WINDS are 0.");
        for (int level : new int[] {0, 6, 12}) {
            Check.due("calm", 1, () -> x.count(12));
            x.blow(level, -1);
            Check.due("a wind at " + level, 0, () -> x.count(12));
            x.blow(level, 1);
            Check.due("a wind at " + level, 0, () -> x.count(12));
            x.blow(level, 0);
        }
    }
}
