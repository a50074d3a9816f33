/** Promises 18 to 38, sentence by sentence: where feathers fall, odds, choices, songs, stocks, cases, trials. */
public final class AskEdgesTest {
    private static final int[] OUTSIDE = {-1, Integer.MIN_VALUE, Integer.MAX_VALUE, 1 << 16, -6};
    private static final int ROWS = 6561;
    private static final int ALL = ROWS * ROWS;
    /** From the top of 8: one straight in two breaths, one drifting by a gust in two, one straight in eight. */
    private static final String STILL = "bird falls 4 light 0 songs a moults 1";
    private static final String DRIFTS = "bird falls 4 light 1 songs b moults 0";
    private static final String SLOW = "bird falls 1 light 0 songs c moults 5";
    private static final String THREE = STILL + ";" + DRIFTS + ";" + SLOW;
    private static final String PLAIN = "bird falls 4 light 0 songs a moults 0";
    private static final String SIX = PLAIN + ";" + PLAIN + ";" + PLAIN;
    private static final String CASE = THREE + ";counsel 999;counsel 999;case 0 1 present abc;yard 7 to 8";
    private static final String NO_SUCH = "there is no such BIRD, COUNSEL, CASE, LEVEL, COLUMN.";
    private static final String TOLD_FIRST = "Of several exceptions the one told first is thrown;";
    private static final String NOTHING = "a call that throws changes nothing but the TAPE, where it is used up.";
    private static final String BITS = "Sets are bits; of none they count for nothing.";
    private static final String NOT_OPEN = "IllegalStateException: it is not open.";

    public static void main(String[] args) {
        waysBounds();
        waysBegin();
        waysBlownOff();
        waysLanded();
        waysInTheAir();
        waysGood();
        waysAnew();
        waysGusts();
        waysAhead();
        landsBounds();
        landsRows();
        goodBounds();
        goodBreaths();
        straightBounds();
        straightEdges();
        oddsBounds();
        oddsAll();
        bestBounds();
        bestOfSeveral();
        whenBounds();
        whenOfSeveral();
        surestBounds();
        surestRounded();
        surestOfSeveral();
        surestNone();
        restsBounds();
        restsNone();
        restsTurn();
        fairBounds();
        fairOfSeveral();
        fairNone();
        songsTape();
        songsSets();
        songsSure();
        askTape();
        askParts();
        tellBounds();
        tellSome();
        alike();
        lastsBounds();
        lastsWeeks();
        rich();
        wonBounds();
        won();
        cover();
        coverFewest();
        widestBounds();
        widestPlaces();
        trialBounds();
        trialDraws();
        trialLooks();
        spanBounds();
        spanSeeds();
        nothingIsAnAct();
        nothingOfThrows();
        Check.allSaid(18, 38);
        Check.close("AskEdgesTest");
    }

    /** Three birds by these texts of the court and this law. */
    private static FeatherYard three(String more, String law) {
        FeatherYard x = Check.yard(THREE, more);
        Check.layDown(x, law);
        return x;
    }

    private static void ways(FeatherYard x, int bird, int good, int off, int air, int beside) {
        int[] want = {good, off, air, beside};
        for (int w = 0; w < 4; w++) {
            int what = w;
            Check.due("ways(" + bird + ", " + w + ")", want[w], () -> x.ways(bird, what));
        }
    }

    // ---- promise 18

    private static void waysBounds() {
        FeatherYard x = Check.yard(THREE);
        Check.says(18, "WAYS what 0 GOOD, 1 BLOWN OFF, 2 IN THE AIR, 3 LANDED beside THE YARD."
            + " NoSuchElementException: another what.");
        Check.due("what 0", ROWS, () -> x.ways(0, 0));
        Check.due("what 3", 0, () -> x.ways(0, 3));
        Check.element("what 4", () -> x.ways(0, 4));
        for (int n : OUTSIDE) {
            Check.element("what " + n, () -> x.ways(0, n));
        }
        Check.says(18, NO_SUCH);
        Check.due("the last bird", ROWS, () -> x.ways(2, 0));
        Check.index("bird 3", () -> x.ways(3, 0));
        Check.index("of none", () -> new FeatherYard().ways(0, 0));
        for (int n : OUTSIDE) {
            Check.index("bird " + n, () -> x.ways(n, 0));
        }
        FeatherYard six = Check.yard(SIX, SIX);
        Check.due("the 6th bird", ROWS, () -> six.ways(5, 0));
        Check.index("the 7th bird", () -> six.ways(6, 0));
        Check.says(18, TOLD_FIRST);
        Check.index("neither", () -> x.ways(3, 4));
    }

    private static void waysBegin() {
        Check.says(18, "A FEATHER of a BIRD begins at THE TOWER's COLUMN at its TOP.");
        FeatherYard west = Check.yard(THREE, "tower 0 top 8;yard 0 to 0");
        ways(west, 0, ROWS, 0, 0, 0);
        ways(west, 1, 1458, 2916, 0, 2187);
        FeatherYard east = Check.yard(THREE, "tower 15 top 8;yard 15 to 15");
        ways(east, 0, ROWS, 0, 0, 0);
        ways(east, 1, 1458, 2916, 0, 2187);
        FeatherYard low = Check.yard(THREE, "tower 7 top 1");
        Check.due("the lowest top", ROWS, () -> low.good(2, 1));
        FeatherYard high = Check.yard(THREE, "tower 7 top 12");
        Check.due("the highest top", ROWS, () -> high.good(0, 3));
        ways(high, 2, 0, 0, ROWS, 0);
    }

    private static void waysBlownOff() {
        Check.says(18, "its COLUMN below 0 or above 15: it is BLOWN OFF (whatever its LEVEL);");
        String[] towers = {"tower 15 top 4;yard 0 to 15", "tower 15 top 3;yard 0 to 15", "tower 15 top 9;yard 0 to 15"};
        for (String tower : towers) {
            ways(three(tower, "east 1"), 0, 0, ROWS, 0, 0);
            ways(three(tower, "east 9;east 9"), 0, 0, ROWS, 0, 0);
            ways(three(tower, ""), 0, ROWS, 0, 0, 0);
        }
        ways(three("tower 0 top 4;yard 0 to 15", "west 1"), 0, 0, ROWS, 0, 0);
        ways(three("tower 1 top 4;yard 0 to 15", "west 1"), 0, ROWS, 0, 0, 0);
        ways(three("tower 14 top 4;yard 0 to 15", "east 1"), 0, ROWS, 0, 0, 0);
        ways(three("tower 0 top 8;yard 0 to 15", "west 1 if breath > 6"), 2, 0, ROWS, 0, 0);
        FeatherYard last = three("tower 7 top 8;yard 0 to 15", "drop 9 if column > 14;east 1;lift 4 if bird < 1");
        ways(last, 0, 0, 0, ROWS, 0);
        FeatherYard back = three("tower 0 top 8;yard 0 to 15", "west 1 if breath < 1;east 1 if breath > 0");
        ways(back, 0, 0, ROWS, 0, 0);
    }

    private static void waysLanded() {
        Check.says(18, "else LEVEL 0 or below: it has LANDED in that COLUMN.");
        int[][] tops = {{3, 1}, {4, 1}, {5, 2}, {8, 2}, {9, 3}, {12, 3}};
        for (int[] t : tops) {
            FeatherYard x = Check.yard(THREE, "tower 7 top " + t[0]);
            Check.due("from " + t[0], ROWS, () -> x.good(0, t[1]));
        }
        FeatherYard x = three("tower 7 top 1", "drop 9;drop 9");
        Check.due("far below 0", ROWS, () -> x.good(0, 1));
        FeatherYard y = three("tower 7 top 4", "east 4");
        Check.due("in the column behind its breath", ROWS, () -> y.lands(0, 11));
        ways(y, 0, 0, 0, 0, ROWS);
    }

    private static void waysInTheAir() {
        Check.says(18, "Behind 8 BREATHS one that has not LANDED and is not BLOWN OFF is IN THE AIR for good.");
        ways(Check.yard(THREE, "tower 7 top 8"), 2, ROWS, 0, 0, 0);
        ways(Check.yard(THREE, "tower 7 top 9"), 2, 0, 0, ROWS, 0);
        ways(three("", "lift 4"), 0, 0, 0, ROWS, 0);
        ways(three("", "lift 4"), 1, 0, 1, ROWS - 1, 0);
        ways(three("", "lift 9 if breath < 7;drop 9"), 0, ROWS, 0, 0, 0);
        ways(three("tower 15 top 8", "lift 9;east 1 if breath > 6"), 0, 0, ROWS, 0, 0);
        ways(three("tower 15 top 8", "lift 9;east 1 if breath > 7"), 0, 0, 0, ROWS, 0);
    }

    private static void waysGood() {
        Check.says(18, "It is GOOD, if it LANDED in THE YARD.");
        int[][] yards = {{7, 7, 2187, 4374}, {5, 5, 729, 5832}, {9, 9, 729, 5832}, {4, 4, 0, ROWS}, {10, 15, 0, ROWS},
            {0, 5, 729, 5832}, {0, 6, 2187, 4374}, {5, 9, ROWS, 0}, {6, 9, 5832, 729}, {0, 15, ROWS, 0}};
        for (int[] y : yards) {
            ways(Check.yard(THREE, "yard " + y[0] + " to " + y[1]), 1, y[2], 0, 0, y[3]);
        }
    }

    /** One object, asked again when its law, its yard or its winds are others. */
    private static void waysAnew() {
        Check.says(18, "WAYS what 0 GOOD, 1 BLOWN OFF, 2 IN THE AIR, 3 LANDED beside THE YARD.");
        FeatherYard x = Check.yard(THREE);
        for (int time = 0; time < 2; time++) {
            Check.layDown(x, "east 9");
            ways(x, 0, 0, ROWS, 0, 0);
            Check.layDown(x, "lift 9");
            ways(x, 0, 0, 0, ROWS, 0);
            Check.layDown(x, "");
            ways(x, 0, ROWS, 0, 0, 0);
            Check.tellCourt(x, "yard 0 to 0");
            ways(x, 0, 0, 0, 0, ROWS);
            x.image();
            Check.tellCourt(x, "yard 5 to 9");
            ways(x, 0, ROWS, 0, 0, 0);
            x.back();
            ways(x, 0, 0, 0, 0, ROWS);
            Check.tellCourt(x, "yard 7 to 7");
            ways(x, 1, 2187, 0, 0, 4374);
            x.blow(4, 1);
            ways(x, 1, 1458, 0, 0, 5103);
            x.undo();
            ways(x, 1, 2187, 0, 0, 4374);
        }
        Check.tellCourt(x, DRIFTS);
        ways(x, 3, 2187, 0, 0, 4374);
    }

    private static void waysGusts() {
        Check.says(18, "A BREATH: by a GUST (- 1, 0, 1): it SINKS and is CARRIED, both by all as it is ahead of that, and goes as many"
            + " COLUMNS as the GUST is, if LIGHT is above 0:");
        String birds = "bird falls 4 light 0 songs a moults 0;bird falls 4 light 1 songs a moults 0;"
            + "bird falls 4 light 3 songs a moults 0;tower 7 top 4";
        FeatherYard x = Check.yard(birds);
        int[][] want = {{0, ROWS, 0}, {2187, 2187, 2187}, {2187, 2187, 2187}};
        for (int b = 0; b < 3; b++) {
            for (int c = 6; c <= 8; c++) {
                int bird = b;
                int column = c;
                Check.due("light of " + b + " in " + c, want[b][c - 6], () -> x.lands(bird, column));
            }
        }
        Check.says(18, "All by GUSTS alike in chance (3 by 3 ..): WAYS of a BIRD: of the 6561 rows of 8 GUSTS"
            + " (those it needs not, too) in how many its feather is GOOD;");
        ways(x, 1, ROWS, 0, 0, 0);
        ways(Check.yard(birds, "tower 0 top 4"), 1, 0, 2187, 0, 4374);
        FeatherYard long8 = Check.yard("bird falls 1 light 1 songs a moults 0;yard 15 to 15");
        ways(long8, 0, 1, 1, 0, ROWS - 2);
    }

    private static void waysAhead() {
        Check.says(18, "it SINKS and is CARRIED, both by all as it is ahead of that,");
        FeatherYard level = three("", "east 1 if level > 4");
        Check.due("carried by the level ahead", ROWS, () -> level.lands(0, 8));
        FeatherYard column = three("", "east 1;drop 4 if column > 7");
        Check.due("sinks by the column ahead", ROWS, () -> column.good(0, 2));
        FeatherYard breath = three("", "east 1 if breath < 1;east 2 if breath > 0");
        Check.due("by the breaths that went by", ROWS, () -> breath.lands(0, 10));
        FeatherYard wind = Check.yard(THREE, "wind 8 east 1;wind 4 east 2;wind 0 east 3");
        Check.due("by the wind of the level ahead", 729, () -> wind.lands(1, 12));
        Check.due("no wind of the ground", 0, () -> wind.lands(1, 13));
        FeatherYard over = three("yard 7 to 7", "east 1 if over");
        Check.due("over by the column ahead", ROWS, () -> over.lands(0, 8));
        FeatherYard high = three("", "east 1 if high");
        Check.due("high at 8, not at 4", ROWS, () -> high.lands(0, 8));
        FeatherYard now = three("", "east 9 if hour < 1;east 3 if breath < 1 and level < 1 + hour");
        Check.due("by the hour of now", ROWS, () -> now.lands(0, 10));
        now.hour(0);
        ways(now, 0, 0, ROWS, 0, 0);
        now.hour(8);
        Check.due("by another hour", ROWS, () -> now.lands(0, 10));
        now.hour(7);
        Check.due("by one hour less", ROWS, () -> now.lands(0, 7));
        now.blow(8, 1);
        Check.due("by another wind", 2187, () -> now.lands(1, 8));
        now.undo();
        now.undo();
        Check.due("by the hour ahead", ROWS, () -> now.lands(0, 10));
    }

    // ---- promise 19

    private static void landsBounds() {
        FeatherYard x = Check.yard(THREE);
        Check.says(19, NO_SUCH);
        Check.due("the last column", 0, () -> x.lands(0, 15));
        Check.due("the first column", 0, () -> x.lands(0, 0));
        Check.index("column 16", () -> x.lands(0, 16));
        Check.index("bird 3", () -> x.lands(3, 0));
        Check.index("of none", () -> new FeatherYard().lands(0, 7));
        for (int n : OUTSIDE) {
            Check.index("column " + n, () -> x.lands(0, n));
            Check.index("bird " + n, () -> x.lands(n, 7));
        }
    }

    private static void landsRows() {
        Check.says(19, "`int lands(int bird, int column) throws IndexOutOfBoundsException`: WAYS in which it LANDS in a COLUMN.");
        FeatherYard west = Check.yard(THREE, "tower 0 top 8");
        int[] want = {1458, 1458, 729, 0};
        for (int c = 0; c < 4; c++) {
            int column = c;
            int mirrored = 15 - c;
            Check.due("lands in " + c, want[c], () -> west.lands(1, column));
            Check.due("lands in " + mirrored, 0, () -> west.lands(1, mirrored));
        }
        FeatherYard east = Check.yard(THREE, "tower 15 top 8");
        for (int c = 0; c < 4; c++) {
            int column = 15 - c;
            Check.due("lands in " + column, want[c], () -> east.lands(1, column));
        }
        Check.due("blown off lands nowhere", 0, () -> three("", "east 9").lands(0, 15));
        Check.due("in the air lands nowhere", 0, () -> three("", "lift 9").lands(0, 7));
        FeatherYard two = three("tower 7 top 9", "drop 9 if column < 7");
        Check.due("in the 2nd by west first, in the 3rd by none or east first", 729 + 729 + 486, () -> two.lands(1, 7));
        Check.due("in the 8th breath", ROWS, () -> Check.yard(THREE).lands(2, 7));
        Check.due("in the 1st breath", ROWS, () -> Check.yard(THREE, "tower 7 top 4").lands(0, 7));
        Check.due("beside the yard, too", ROWS, () -> Check.yard(THREE, "yard 0 to 0").lands(0, 7));
    }

    // ---- promise 20

    private static void goodBounds() {
        FeatherYard x = Check.yard(THREE);
        Check.says(20, "WAYS in which it is GOOD just in the k-th BREATH. IllegalArgumentException: k is none (1 to 8).");
        Check.due("the 1st", 0, () -> x.good(2, 1));
        Check.due("the 8th", ROWS, () -> x.good(2, 8));
        Check.argument("the 0th", () -> x.good(2, 0));
        Check.argument("the 9th", () -> x.good(2, 9));
        for (int n : OUTSIDE) {
            Check.argument("k " + n, () -> x.good(2, n));
        }
        Check.says(20, NO_SUCH);
        Check.index("bird 3", () -> x.good(3, 1));
        Check.index("of none", () -> new FeatherYard().good(0, 1));
        for (int n : OUTSIDE) {
            Check.index("bird " + n, () -> x.good(n, 1));
        }
        Check.says(20, TOLD_FIRST);
        Check.index("neither", () -> x.good(3, 0));
    }

    private static void goodBreaths() {
        Check.says(20, "is GOOD just in the k-th BREATH (1 to 8).");
        for (int k = 1; k <= 8; k++) {
            int breath = k;
            FeatherYard x = Check.yard(THREE, "tower 7 top " + k);
            for (int n = 1; n <= 8; n++) {
                int asked = n;
                Check.due("from " + k + " in the " + n, n == k ? ROWS : 0, () -> x.good(2, asked));
            }
            Check.tellCourt(x, "yard 8 to 8");
            Check.due("beside the yard", 0, () -> x.good(2, breath));
        }
        FeatherYard y = three("yard 7 to 7;tower 7 top 9", "drop 9 if column < 7;drop 9 if column > 7");
        Check.due("aside in the 1st, and back in the 2nd", 1458, () -> y.good(1, 2));
        Check.due("straight in the 1st, and over column 7 in the 3rd", 729, () -> y.good(1, 3));
    }

    // ---- promise 21

    private static void straightBounds() {
        FeatherYard x = Check.yard(THREE);
        Check.says(21, NO_SUCH);
        Check.due("the last bird", 7, () -> x.straight(2, false));
        Check.index("bird 3", () -> x.straight(3, false));
        Check.index("of none", () -> new FeatherYard().straight(0, true));
        for (int n : OUTSIDE) {
            Check.index("bird " + n, () -> x.straight(n, false));
            Check.index("bird " + n, () -> x.straight(n, true));
        }
    }

    private static void straight(String name, FeatherYard x, int bird, int column, int breath) {
        Check.due(name + ": the column", column, () -> x.straight(bird, false));
        Check.due(name + ": the breath", breath, () -> x.straight(bird, true));
    }

    private static void straightEdges() {
        Check.says(21, "STRAIGHT: where it LANDS without GUSTS (none), in which BREATH.");
        straight("without gusts", Check.yard(THREE), 1, 7, 2);
        Check.says(21, "STRAIGHT: the COLUMN (breath false; NONE), or the BREATH (NONE).");
        straight("in the 1st", Check.yard(THREE, "tower 7 top 1"), 2, 7, 1);
        straight("in the 8th", Check.yard(THREE, "tower 7 top 8"), 2, 7, 8);
        straight("in the air", Check.yard(THREE, "tower 7 top 9"), 2, -1, -1);
        straight("column 0", three("tower 1 top 4", "west 1"), 0, 0, 1);
        straight("off to the west", three("tower 0 top 4", "west 1"), 0, -1, -1);
        straight("column 15", three("tower 14 top 4", "east 1"), 0, 15, 1);
        straight("off to the east", three("tower 15 top 4", "east 1"), 0, -1, -1);
        straight("off in the 8th", three("tower 15 top 8", "east 1 if breath > 6"), 2, -1, -1);
        straight("beside the yard", Check.yard(THREE, "yard 0 to 0"), 0, 7, 2);
        FeatherYard wind = Check.yard(THREE, "wind 8 west 3;wind 4 west 2");
        straight("by winds", wind, 1, 2, 2);
        straight("without light", wind, 0, 7, 2);
        straight("far off to the east", three("tower 15 top 4", "east 9;east 9"), 0, -1, -1);
        straight("far off to the west", three("tower 0 top 4", "west 9;west 9"), 0, -1, -1);
        FeatherYard one = Check.yard(THREE, "tower 7 top 9");
        straight("one bird lands", one, 0, 7, 3);
        straight("another one does not", one, 2, -1, -1);
        straight("the one lands all the same", one, 0, 7, 3);
        straight("by the tower in column 0", Check.yard(THREE, "tower 0 top 8"), 1, 0, 2);
    }

    // ---- promise 22

    private static void oddsBounds() {
        FeatherYard x = Check.yard(THREE);
        Check.says(22, "ODDS what 0 the first one, 1 the second one, 2 a marriage, 3 as if never met."
            + " NoSuchElementException: another what.");
        Check.due("what 0", ALL, () -> x.odds(0, 2, 0));
        Check.due("what 3", 0, () -> x.odds(0, 2, 3));
        Check.element("what 4", () -> x.odds(0, 2, 4));
        for (int n : OUTSIDE) {
            Check.element("what " + n, () -> x.odds(0, 2, n));
        }
        Check.says(22, NO_SUCH);
        Check.index("bird 3", () -> x.odds(3, 0, 0));
        Check.index("other 3", () -> x.odds(0, 3, 0));
        Check.index("of none", () -> new FeatherYard().odds(0, 0, 0));
        for (int n : OUTSIDE) {
            Check.index("bird " + n, () -> x.odds(n, 0, 0));
            Check.index("other " + n, () -> x.odds(0, n, 0));
        }
        Check.says(22, TOLD_FIRST);
        Check.index("no bird, no what", () -> x.odds(3, 0, 4));
        Check.index("no other, no what", () -> x.odds(0, 3, -1));
    }

    private static void odds(String name, FeatherYard x, int bird, int other, int... want) {
        for (int w = 0; w < 4; w++) {
            int what = w;
            Check.due(name + " what " + w, want[w], () -> x.odds(bird, other, what));
        }
    }

    private static void oddsAll() {
        Check.says(22, "in how many of 6561 times 6561 the first one has it, the second one, a marriage, as if they had never met.");
        FeatherYard x = Check.yard(CASE);
        odds("all the first one's", x, 0, 2, ALL, 0, 0, 0);
        odds("all the second one's", x, 2, 0, 0, ALL, 0, 0);
        odds("all in the 8th breath", x, 2, 2, 0, 0, ALL, 0);
        odds("with itself", x, 1, 1, 3645 * 2916, 2916 * 3645, 3645 * 3645, 2916 * 2916);
        odds("one good at times", x, 1, 2, 3645 * ROWS, 2916 * ROWS, 0, 0);
        FeatherYard low = Check.yard(THREE, "tower 7 top 4");
        odds("all in the 1st breath", low, 0, 0, 0, 0, ALL, 0);
        odds("the 1st breath and the 4th", low, 0, 2, ALL, 0, 0, 0);
        odds("the 4th breath and the 1st", low, 2, 0, 0, ALL, 0, 0);
        FeatherYard never = Check.yard(THREE, "yard 0 to 0");
        odds("never", never, 0, 1, 0, 0, 0, ALL);
        FeatherYard off = three("", "east 9 if bird < 1");
        odds("one blown off", off, 0, 2, 0, ALL, 0, 0);
        FeatherYard air = three("tower 7 top 9", "");
        odds("one in the air", air, 2, 0, 0, ALL, 0, 0);
        FeatherYard first = three("tower 7 top 8;yard 7 to 7", "lift 3 if bird < 1;drop 1 if bird < 1 and breath > 5");
        odds("7 breaths and 8 breaths", first, 2, 0, 0, ALL, 0, 0);
    }

    // ---- promise 23

    private static void bestBounds() {
        FeatherYard x = Check.yard(THREE);
        Check.says(23, NO_SUCH);
        Check.index("bird 3", () -> x.best(3, 7));
        Check.index("of none", () -> new FeatherYard().best(0, 0));
        for (int n : OUTSIDE) {
            Check.index("bird " + n, () -> x.best(n, 7));
        }
        Check.says(23, BITS);
        Check.due("birds that are none", -1, () -> x.best(0, 8));
        Check.due("birds that are none", -1, () -> x.best(0, -8));
        Check.due("bit 31", -1, () -> x.best(0, Integer.MIN_VALUE));
        Check.due("bit 32 less", 0, () -> x.best(2, Integer.MAX_VALUE));
        Check.due("all bits", 0, () -> x.best(2, -1));
        Check.due("one of these is one", 2, () -> x.best(0, 4 + 8 + 64 + Integer.MIN_VALUE));
        FeatherYard six = Check.yard(SIX, SIX);
        Check.due("the 6th bird", 5, () -> six.best(0, 32));
        Check.due("no 7th bird", -1, () -> six.best(0, 64));
    }

    private static void bestOfSeveral() {
        Check.says(23, "of a set of BIRDS that by which the first one has it in the most (of several the least; none).");
        FeatherYard x = Check.yard(THREE, "yard 7 to 8");
        Check.says(23, "BEST; NONE.");
        Check.due("none", -1, () -> x.best(0, 0));
        Check.due("none of a bird that is never good", -1, () -> x.best(2, 0));
        Check.says(23, "BEST against a BIRD: of a set of BIRDS that by which the first one has it in the most (of several the least; none).");
        Check.due("the most", 0, () -> x.best(2, 7));
        Check.due("the one that is", 2, () -> x.best(0, 4));
        Check.due("never at all: the least", 0, () -> x.best(0, 7));
        Check.due("never at all: the least of these", 1, () -> x.best(0, 6));
        Check.due("against itself", 1, () -> x.best(1, 2));
        FeatherYard six = Check.yard(SIX + ";yard 7 to 7", SIX);
        Check.layDown(six, "east 1 if bird < 2;lift 3 if bird > 4");
        Check.due("of several the least", 2, () -> six.best(5, 63));
        Check.due("of several the least", 3, () -> six.best(5, 63 - 4));
        Check.due("not as the second one", 5, () -> six.best(0, 32));
        FeatherYard late = three("yard 7 to 7", "");
        Check.due("a chance of three is less than all", 0, () -> late.best(2, 3));
        Check.due("a chance is more than none", 1, () -> late.best(2, 6));
    }

    // ---- promise 24

    private static void whenBounds() {
        FeatherYard x = Check.yard(THREE);
        Check.says(24, NO_SUCH);
        Check.index("bird 3", () -> x.when(3, 0));
        Check.index("other 3", () -> x.when(0, 3));
        Check.index("of none", () -> new FeatherYard().when(0, 0));
        for (int n : OUTSIDE) {
            Check.index("bird " + n, () -> x.when(n, 0));
            Check.index("other " + n, () -> x.when(0, n));
        }
    }

    private static void whenOfSeveral() {
        Check.says(24, "the HOUR in which the first one has it in the most (of several the least; all else as it is).");
        FeatherYard x = three("yard 7 to 7;hour 9", "");
        Check.due("all alike, the most", 0, () -> x.when(0, 2));
        Check.due("all alike, none", 0, () -> x.when(2, 0));
        for (int hour : new int[] {0, 1, 11, 22, 23}) {
            Check.layDown(x, "east 1 if bird < 1 and hour < " + hour + ";east 1 if bird < 1 and hour > " + hour);
            Check.due("in one hour alone", hour, () -> x.when(0, 2));
            Check.layDown(x, "east 1 if bird < 1 and hour < " + hour);
            Check.due("from an hour on", hour, () -> x.when(0, 2));
            Check.layDown(x, "east 1 if bird < 1 and hour > " + hour);
            Check.due("up to an hour", 0, () -> x.when(0, 2));
        }
        Check.layDown(x, "east 1 if bird < 1 and hour < 23");
        Check.due("the last hour alone", 23, () -> x.when(0, 2));
        Check.layDown(x, "east 1 if bird < 1 and hour < 24");
        Check.due("no 24th hour", 0, () -> x.when(0, 2));
        Check.layDown(x, "east 1 if bird < 1 and hour > 0");
        Check.due("the first hour alone", 0, () -> x.when(0, 2));
        Check.layDown(x, "east 1 if bird > 1 and hour > 12");
        Check.due("the other one's hours", 0, () -> x.when(2, 0));
        Check.due("hour", 9, () -> x.count(6));
        Check.due("its own hour counts for nothing", 0, () -> x.when(0, 0));
        Check.layDown(x, "east 1 if bird < 1 and hour < 5;lift 3 if bird < 1 and hour < 20");
        Check.due("not by a marriage in the hours ahead", 20, () -> x.when(0, 2));
        Check.due("hour", 9, () -> x.count(6));
        Check.due("the ways of that hour", ROWS, () -> x.good(0, 8));
    }

    // ---- promise 25

    private static void surestBounds() {
        FeatherYard x = Check.yard(CASE);
        Check.says(25, NO_SUCH);
        Check.index("case 1", () -> x.surest(1, false, false));
        Check.index("of none", () -> new FeatherYard().surest(0, true, true));
        for (int n : OUTSIDE) {
            Check.index("case " + n, () -> x.surest(n, false, true));
        }
        Check.says(25, NOT_OPEN);
        x.call(0, 0, 2);
        Check.state("called", () -> x.surest(0, false, false));
        Check.state("called", () -> x.surest(0, true, true));
        x.appeal(0);
        Check.due("open again", 0, () -> x.surest(0, false, false));
    }

    private static void surest(String name, FeatherYard x, int matter, boolean second, int bird, int much) {
        Check.due(name, bird, () -> x.surest(matter, second, false));
        Check.due(name + ", how much", much, () -> x.surest(matter, second, true));
    }

    private static void surestRounded() {
        Check.says(25, "in how many hundredths (rounded down) of all rows it has the CASE,");
        String two = THREE + ";counsel 999;counsel 999;case 0 1 present b;case 0 1 present c;case 0 1 present ab;";
        FeatherYard x = Check.yard(two + "counsel 010;counsel 001", "case 2 3 present abc;yard 7 to 8");
        surest("3645 of 6561: 55.6", x, 3, false, 1, 55);
        surest("2916 of 6561: 44.4", x, 3, true, 2, 44);
        surest("24.69 of both", x, 0, false, 1, 24);
        surest("24.69 of both", x, 0, true, 1, 24);
        surest("none", x, 1, false, 2, 0);
        FeatherYard y = Check.yard(THREE + ";counsel 100;counsel 001;case 0 1 present abc");
        surest("all", y, 0, false, 0, 100);
        surest("none", y, 0, true, 2, 0);
        Check.layDown(y, "lift 3 if bird < 1;drop 1 if bird < 1 and breath > 6");
        surest("in the 8th breath", y, 0, false, 0, 0);
        surest("in the 8th breath", y, 0, true, 2, 0);
        FeatherYard z = Check.yard("bird falls 1 light 1 songs a moults 0;bird falls 4 light 0 songs a moults 0;counsel 10;"
            + "counsel 01;case 0 1 present ab;yard 0 to 14");
        Check.layDown(z, "west 9 if bird > 0");
        surest("all but two of 6561: 99.97", z, 0, false, 0, 99);
        Check.tellCourt(z, "yard 15 to 15");
        surest("one of 6561: 0.02", z, 0, false, 0, 0);
    }

    private static void surestOfSeveral() {
        Check.says(25, "by a choice of its own and whatever the other one chooses, at least: the choice by which this is the most"
            + " (of several the least;");
        FeatherYard x = Check.yard(SIX, SIX, "counsel 111111;counsel 111111;case 0 1 present abcdef;case 0 1 present cdef");
        surest("all alike, never", x, 0, false, 0, 0);
        surest("all alike, never", x, 0, true, 0, 0);
        surest("the least that was present", x, 1, false, 2, 0);
        FeatherYard y = Check.yard(THREE + ";" + DRIFTS, "counsel 0111;counsel 0011;case 0 1 present abcd;yard 7 to 8");
        Check.layDown(y, "east 9 if bird > 1 and bird < 3");
        surest("24 by both", y, 0, false, 1, 24);
        surest("the other one's: 24 by bird 3 alone", y, 0, true, 3, 24);
        FeatherYard least = Check.yard(THREE + ";counsel 011;counsel 101;case 0 1 present abc;yard 7 to 8");
        surest("0 against the worst, though 55 against the other", least, 0, false, 1, 0);
        surest("44 against the worst, though 100 against the other", least, 0, true, 0, 44);
    }

    private static void surestNone() {
        Check.says(25, "none without CHOICES on both sides); how much that is.");
        FeatherYard x = Check.yard(THREE + ";counsel 100;counsel 010;counsel 001;case 0 1 present a;case 1 0 present a",
            "case 0 1 present c;case 0 1 present ab");
        surest("the second one has no choice", x, 0, false, -1, -1);
        surest("nor has the first one by that", x, 0, true, -1, -1);
        surest("the first one has no choice", x, 1, false, -1, -1);
        surest("nor has the second one by that", x, 1, true, -1, -1);
        Check.says(25, "SUREST for the first one (second false), or the second one: the BIRD (much false), or how much; NONE.");
        surest("neither has", x, 2, false, -1, -1);
        surest("neither has", x, 2, true, -1, -1);
        surest("both have one", x, 3, false, 0, 0);
        surest("both have one", x, 3, true, 1, 0);
        x.give(0, 1, 0, 1);
        surest("the last feather went", x, 3, false, -1, -1);
        surest("the last feather came", x, 0, true, -1, -1);
    }

    // ---- promise 26

    private static void restsBounds() {
        FeatherYard x = Check.yard(CASE);
        Check.says(26, NO_SUCH);
        Check.index("case 1", () -> x.rests(1, false));
        Check.index("of none", () -> new FeatherYard().rests(0, true));
        for (int n : OUTSIDE) {
            Check.index("case " + n, () -> x.rests(n, false));
            Check.index("case " + n, () -> x.rests(n, true));
        }
        Check.says(26, NOT_OPEN);
        x.call(0, 0, 2);
        Check.state("called", () -> x.rests(0, false));
        Check.state("called", () -> x.rests(0, true));
        x.appeal(0);
        Check.due("open again", 1, () -> x.rests(0, false) > 0);
    }

    private static void rests(String name, FeatherYard x, int matter, int many, int first) {
        Check.due(name + ", how many", many, () -> x.rests(matter, false));
        Check.due(name + ", the first", first, () -> x.rests(matter, true));
    }

    private static void restsNone() {
        Check.says(26, "RESTS: how many (first false), or the first; NONE.");
        FeatherYard x = Check.yard(THREE + ";counsel 100;counsel 010;case 0 1 present a;case 1 0 present a;case 0 1 present c");
        rests("the second one has no choice", x, 0, 0, -1);
        rests("the first one has no choice", x, 1, 0, -1);
        rests("neither has", x, 2, 0, -1);
        FeatherYard y = Check.yard("bird falls 4 light 2 songs a moults 0;bird falls 3 light 1 songs a moults 0;"
            + "bird falls 2 light 2 songs a moults 0;counsel 111;counsel 111;case 0 1 present abc;tower 6 top 8;yard 7 to 13");
        Check.due("good in the 2nd", 2187, () -> y.good(0, 2));
        Check.due("good in the 3rd at more", 2430, () -> y.good(1, 3));
        Check.due("good in the 4th at most", 2511, () -> y.good(2, 4));
        rests("each turns against each", y, 0, 0, -1);
        FeatherYard z = Check.yard(SIX, SIX, "counsel 111111;counsel 111111;case 0 1 present abcdef;case 0 1 present bdf");
        rests("all alike", z, 0, 36, 0);
        rests("all of three", z, 1, 9, 11);
    }

    private static void restsTurn() {
        Check.says(26, "how many pairs of CHOICES there are from which neither could have it more often by another choice of its own"
            + " alone; the first one (10 times the one and the other; of several the least); none.");
        FeatherYard x = Check.yard(CASE);
        rests("each against 0, and 0 against each", x, 0, 5, 0);
        FeatherYard own = Check.yard(THREE + ";counsel 001;counsel 111;case 0 1 present abc;case 1 0 present abc");
        rests("another choice of the own stock alone", own, 0, 2, 20);
        rests("another choice of the own stock alone", own, 1, 2, 2);
        FeatherYard second = Check.yard(THREE + ";counsel 001;counsel 011;case 0 1 present abc;case 1 0 present abc;yard 7 to 8");
        rests("the second one turns", second, 0, 1, 21);
        rests("the first one turns", second, 1, 1, 12);
    }

    // ---- promise 27

    private static void fairBounds() {
        FeatherYard x = Check.yard(CASE);
        Check.says(27, NO_SUCH);
        Check.index("case 1", () -> x.fair(1));
        Check.index("of none", () -> new FeatherYard().fair(0));
        for (int n : OUTSIDE) {
            Check.index("case " + n, () -> x.fair(n));
        }
        Check.says(27, NOT_OPEN);
        x.call(0, 0, 2);
        Check.state("called", () -> x.fair(0));
        x.appeal(0);
        Check.due("open again", 0, () -> x.fair(0));
    }

    private static void fairOfSeveral() {
        Check.says(27, "the pair of CHOICES by which both have it as nearly alike as can be (of several the least;"
            + " 10 times the one and the other; none).");
        FeatherYard x = Check.yard(SIX, SIX, "counsel 111111;counsel 111111;case 0 1 present abcdef;case 0 1 present bdf;"
            + "case 0 1 present f");
        Check.due("all alike", 0, () -> x.fair(0));
        Check.due("all of three", 11, () -> x.fair(1));
        Check.due("the last pair", 55, () -> x.fair(2));
        String three = THREE + ";counsel 011;counsel 101;case 0 1 present abc;case 0 1 present ab;";
        FeatherYard y = Check.yard(three + "case 1 0 present ab;yard 7 to 8");
        Check.due("both in the 8th", 22, () -> y.fair(0));
        Check.due("one pair alone", 10, () -> y.fair(1));
        Check.due("the other way round", 1, () -> y.fair(2));
        FeatherYard z = Check.yard(THREE + ";counsel 001;counsel 110;case 0 1 present abc;case 1 0 present abc;yard 7 to 8");
        Check.due("729 apart, not all", 21, () -> z.fair(0));
        Check.due("729 apart the other way", 12, () -> z.fair(1));
    }

    private static void fairNone() {
        Check.says(27, "FAIR; NONE. IllegalStateException: it is not open.");
        FeatherYard x = Check.yard(THREE + ";counsel 100;counsel 010;case 0 1 present a;case 1 0 present a;case 0 1 present c");
        for (int m = 0; m < 3; m++) {
            int matter = m;
            Check.due("case " + m + " without choices of both", -1, () -> x.fair(matter));
        }
        x.give(0, 1, 0, 1);
        Check.due("the last feather went", -1, () -> x.fair(0));
    }

    // ---- promise 28

    private static FeatherYard told(FeatherYard x, String tape) {
        Check.put(x, tape);
        return x;
    }

    private static int sets(FeatherYard x, String tape) {
        return told(x, tape).songs(false);
    }

    private static int sure(FeatherYard x, String tape) {
        return told(x, tape).songs(true);
    }

    private static void songsTape() {
        FeatherYard x = Check.yard(THREE);
        Check.says(28, "Uses the TAPE up: SONGS (of each two bytes: SONG 0 to 5, 1 or 0; at most 40 bytes):");
        Check.due("song 0", 4, () -> sets(x, "\0\1"));
        Check.due("song 5", 0, () -> sets(x, "\5\1"));
        Check.due("song 5, not heard", 8, () -> sets(x, "\5\0"));
        Check.due("40 bytes", 8, () -> sets(x, "\5\0".repeat(20)));
        Check.due("used up", 0, () -> x.end(1));
        Check.due("38 bytes, and one more song", 4, () -> sets(x, "\5\0".repeat(19) + "\2\1"));
        Check.says(28, "IllegalArgumentException: the TAPE is not that (none may be told).");
        Check.due("none told", 8, () -> sets(x, ""));
        Check.due("none told, sure", 0, () -> sure(x, ""));
        String[] wrong = {"\6\1", "\7\0", "\u0080\0", "\u00ff\1", "\0\2", "\0\u0080", "\5\u00ff", "\0", "\0\1\0", "\0\1\6\0",
            "\5\0".repeat(20) + "\0", "\5\0".repeat(21), "\5\0".repeat(19) + "\5\2", "\5\0".repeat(19) + "\6\0", "a1",
            "\5\0".repeat(200), "\0\0\0\0\0\0\0\2"};
        for (String tape : wrong) {
            Check.put(x, tape);
            Check.argument("songs of " + tape.length() + " bytes", () -> x.songs(false));
            Check.due("used up", 0, () -> x.end(1));
            Check.put(x, tape);
            Check.argument("sure of " + tape.length() + " bytes", () -> x.songs(true));
            Check.due("used up", 0, () -> x.end(1));
        }
        FeatherYard y = new FeatherYard();
        y.feed(0x00010201, -1, -1, -1, -1);
        y.end(4);
        Check.due("4 bytes of 20", 0, () -> y.songs(false));
    }

    private static void songsSets() {
        Check.says(28, "SONGS: told are SONGS and whether they were heard (1), or not (0): sets of BIRDS that can have been there"
            + " (each SONG that was heard is one of theirs, none that was not): how many;");
        FeatherYard x = Check.yard(THREE);
        Check.due("no bird at all is a set, too", 1, () -> sets(x, "\0\0\1\0\2\0"));
        Check.due("one of theirs", 1, () -> sets(x, "\0\1\1\1\2\1"));
        Check.due("none that was not", 2, () -> sets(x, "\0\1\1\0"));
        Check.due("told twice", 4, () -> sets(x, "\0\1\0\1"));
        Check.due("heard and not", 0, () -> sets(x, "\0\1\0\0"));
        FeatherYard none = new FeatherYard();
        Check.due("without birds", 1, () -> sets(none, ""));
        Check.due("without birds, not heard", 1, () -> sets(none, "\0\0\5\0"));
        Check.due("without birds, heard", 0, () -> sets(none, "\0\1"));
        FeatherYard six = Check.yard(SIX, THREE);
        Check.due("of six birds", 64, () -> sets(six, ""));
        Check.due("of six birds, one heard", 60, () -> sets(six, "\0\1"));
        Check.due("of six birds, one not heard", 4, () -> sets(six, "\0\0"));
        FeatherYard all = Check.yard("bird falls 1 light 1 songs abcdef moults 0;bird falls 1 light 1 songs f moults 0");
        Check.due("all six songs", 2, () -> sets(all, "\0\1\1\1\2\1\3\1\4\1\5\1"));
        Check.due("the last one alone", 1, () -> sets(all, "\0\0\5\1"));
    }

    private static void songsSure() {
        Check.says(28, "SURE: BIRDS in all of these, as bits (0 without).");
        FeatherYard x = Check.yard(THREE);
        Check.due("no set", 0, () -> sure(x, "\5\1"));
        Check.due("no set, of a bird that sang", 0, () -> sure(x, "\0\1\0\0"));
        Check.due("the last bird", 4, () -> sure(x, "\2\1"));
        Check.due("all", 7, () -> sure(x, "\0\1\1\1\2\1"));
        Check.due("none in all", 0, () -> sure(x, "\5\0"));
        Check.due("no bird alone", 0, () -> sure(x, "\0\0\1\0\2\0"));
        FeatherYard none = new FeatherYard();
        Check.due("without birds", 0, () -> sure(none, ""));
        Check.due("without birds, without sets", 0, () -> sure(none, "\0\1"));
        FeatherYard six = Check.yard(SIX, THREE);
        Check.due("the 6th bird", 32, () -> sure(six, "\2\1"));
        Check.due("one of several", 0, () -> sure(six, "\0\1"));
        Check.due("no set of six", 0, () -> sure(six, "\3\1"));
    }

    // ---- promise 29

    private static void askTape() {
        FeatherYard x = Check.yard(THREE);
        Check.says(29, "Uses the TAPE up: ASK (the TAPE likewise); NONE. IllegalArgumentException: the TAPE is not that.");
        Check.due("none told", 0, () -> told(x, "").ask());
        Check.due("40 bytes", 0, () -> told(x, "\5\0".repeat(20)).ask());
        Check.due("used up", 0, () -> x.end(1));
        String[] wrong = {"\6\1", "\u00ff\1", "\0\2", "\0\u00ff", "\0", "\0\1\0", "\5\0".repeat(20) + "\0", "\5\0".repeat(21),
            "\5\0".repeat(19) + "\5\2"};
        for (String tape : wrong) {
            Check.put(x, tape);
            Check.argument("ask of " + tape.length() + " bytes", x::ask);
            Check.due("used up", 0, () -> x.end(1));
        }
    }

    private static void askParts() {
        Check.says(29, "the SONG by which these are parted (one of theirs, or not) so that the greater part is the least"
            + " (of several the least; none with fewer than two).");
        FeatherYard x = Check.yard(THREE);
        Check.due("no set", -1, () -> told(x, "\5\1").ask());
        Check.due("one set", -1, () -> told(x, "\0\1\1\1\2\1").ask());
        Check.due("the empty set alone", -1, () -> told(x, "\0\0\1\0\2\0").ask());
        Check.due("two sets", 2, () -> told(x, "\0\1\1\1").ask());
        Check.due("two sets, by the first song", 0, () -> told(x, "\1\1\2\1").ask());
        Check.due("of several the least", 1, () -> told(x, "\0\1").ask());
        Check.due("without birds", -1, () -> told(new FeatherYard(), "").ask());
        FeatherYard y = Check.yard("bird falls 1 light 1 songs ef moults 0;bird falls 1 light 1 songs f moults 0");
        Check.due("2 and 2 is less than 3 and 1", 4, () -> told(y, "").ask());
        Check.due("by the last song", 5, () -> told(y, "\4\0").ask());
        FeatherYard z = Check.yard(PLAIN + ";" + PLAIN);
        Check.due("two sets that no song parts", 0, () -> told(z, "\0\1").ask());
        FeatherYard v = Check.yard("bird falls 1 light 1 songs a moults 0;bird falls 1 light 1 songs a moults 0;"
            + "bird falls 1 light 1 songs b moults 0");
        Check.due("4 and 4 is less than 6 and 2", 1, () -> told(v, "").ask());
        Check.due("the greater part may be the one without", 1, () -> told(v, "\0\1").ask());
        FeatherYard six = Check.yard(THREE, SIX);
        Check.due("32 and 32 of 64", 1, () -> told(six, "").ask());
    }

    // ---- promise 30

    private static void tellBounds() {
        FeatherYard x = Check.yard(THREE);
        Check.says(30, "TELL, as bits. IllegalArgumentException: the BREATH is none (1 to 8).");
        Check.due("the 1st", 0, () -> x.tell(7, 1));
        Check.due("the 8th", 4, () -> x.tell(7, 8));
        Check.argument("the 0th", () -> x.tell(7, 0));
        Check.argument("the 9th", () -> x.tell(7, 9));
        for (int n : OUTSIDE) {
            Check.argument("breath " + n, () -> x.tell(7, n));
        }
        Check.says(30, NO_SUCH);
        Check.due("the first column", 0, () -> x.tell(0, 2));
        Check.due("the last column", 0, () -> x.tell(15, 2));
        Check.index("column 16", () -> x.tell(16, 2));
        for (int n : OUTSIDE) {
            Check.index("column " + n, () -> x.tell(n, 2));
        }
        Check.says(30, TOLD_FIRST);
        Check.index("neither", () -> x.tell(16, 9));
        Check.index("neither", () -> x.tell(-1, 0));
    }

    private static void tellSome() {
        Check.says(30, "TELL: a feather of a told COLUMN and BREATH where it LANDED: BIRDS that can have LANDED so by some GUSTS, as bits.");
        Check.due("without birds", 0, () -> new FeatherYard().tell(7, 1));
        FeatherYard x = Check.yard("bird falls 1 light 1 songs a moults 0");
        Check.due("by one row of 6561", 1, () -> x.tell(15, 8));
        Check.due("blown off by one row", 0, () -> x.tell(0, 7));
        Check.due("the farthest to the west", 1, () -> x.tell(0, 8));
        Check.due("not in the 7th breath", 0, () -> x.tell(7, 7));
        Check.tellCourt(x, "tower 7 top 7");
        Check.due("not so far", 0, () -> x.tell(15, 7));
        Check.due("as far as seven gusts go", 1, () -> x.tell(14, 7));
        Check.tellCourt(x, "yard 0 to 0");
        Check.due("beside the yard, too", 1, () -> x.tell(14, 7));
        FeatherYard six = Check.yard(SIX, SIX);
        Check.due("all six", 63, () -> six.tell(7, 2));
        Check.layDown(six, "east 9 if bird < 1;lift 9 if bird > 4");
        Check.due("none blown off, none in the air", 30, () -> six.tell(7, 2));
        Check.due("none in the air lands in the 8th", 0, () -> six.tell(7, 8));
    }

    // ---- promise 31

    private static void alike() {
        Check.says(31, "pairs of BIRDS whose WAYS to be GOOD are as many in each BREATH: how many.");
        Check.due("without birds", 0, () -> new FeatherYard().alike());
        Check.due("one bird", 0, () -> Check.yard(PLAIN).alike());
        Check.due("two birds", 1, () -> Check.yard(PLAIN + ";" + PLAIN).alike());
        Check.due("six birds", 15, () -> Check.yard(SIX, SIX).alike());
        Check.due("as many, in another breath", 0, () -> Check.yard(STILL + ";" + SLOW).alike());
        Check.due("in the same breath, not as many", 0, () -> Check.yard(STILL + ";" + DRIFTS, "yard 7 to 7").alike());
        Check.due("as many, in other columns", 1, () -> Check.yard(STILL + ";" + DRIFTS).alike());
        Check.due("none in any breath", 3, () -> Check.yard(THREE, "yard 0 to 0").alike());
        FeatherYard x = three("", "east 9 if bird < 1;lift 9 if bird > 1;drop 9 if bird > 0 and bird < 2;east 5 if bird > 0");
        Check.due("blown off, beside, in the air", 3, x::alike);
        FeatherYard last = Check.yard(SLOW + ";" + SLOW);
        Check.layDown(last, "east 9 if bird > 0 and breath > 6");
        Check.due("unlike in the 8th breath alone", 0, last::alike);
        FeatherYard first = Check.yard(STILL + ";" + STILL, "tower 7 top 4");
        Check.layDown(first, "east 9 if bird > 0");
        Check.due("unlike in the 1st breath alone", 0, first::alike);
    }

    // ---- promise 32

    private static void lastsBounds() {
        FeatherYard x = Check.yard(THREE + ";counsel 123;counsel 000");
        Check.says(32, "LASTS; NONE. IllegalArgumentException: so many are none.");
        Check.due("1", 0, () -> x.lasts(0, 0, 1));
        Check.due("99", 98, () -> x.lasts(0, 0, 99));
        Check.argument("0", () -> x.lasts(0, 0, 0));
        Check.argument("100", () -> x.lasts(0, 0, 100));
        for (int n : OUTSIDE) {
            Check.argument("n " + n, () -> x.lasts(0, 0, n));
        }
        Check.says(32, NO_SUCH);
        Check.index("counsel 2", () -> x.lasts(2, 0, 1));
        Check.index("bird 3", () -> x.lasts(0, 3, 1));
        Check.index("no counsel", () -> Check.yard(PLAIN).lasts(0, 0, 1));
        for (int n : OUTSIDE) {
            Check.index("counsel " + n, () -> x.lasts(n, 0, 1));
            Check.index("bird " + n, () -> x.lasts(0, n, 1));
        }
        Check.says(32, TOLD_FIRST);
        Check.index("no counsel, so many are none", () -> x.lasts(2, 0, 0));
        Check.index("no bird, so many are none", () -> x.lasts(0, 3, 100));
    }

    private static void lastsWeeks() {
        FeatherYard x = Check.yard(THREE + ";counsel 123;counsel 000");
        Check.says(32, "the first N (0 to 99) WEEKS from now by which a COUNSEL has so many (1 to 99) feathers of a BIRD; none.");
        Check.due("99 weeks", 99, () -> x.lasts(1, 0, 99));
        Check.due("98 weeks", 98, () -> x.lasts(1, 0, 98));
        Check.due("0 weeks", 0, () -> x.lasts(0, 2, 3));
        Check.due("1 week", 1, () -> x.lasts(0, 2, 4));
        Check.due("just 1 week", 1, () -> x.lasts(0, 2, 8));
        Check.due("2 weeks", 2, () -> x.lasts(0, 2, 9));
        Check.due("to 99 in fives", 20, () -> x.lasts(1, 2, 99));
        Check.due("without moults, it has them", 0, () -> x.lasts(0, 1, 2));
        Check.due("without moults, never", -1, () -> x.lasts(0, 1, 3));
        Check.due("without moults, never one", -1, () -> x.lasts(1, 1, 1));
        x.weeks(60);
        Check.due("from now", 39, () -> x.lasts(1, 0, 99));
        Check.due("full now", 0, () -> x.lasts(1, 2, 99));
        Check.due("week", 60, () -> x.count(5));
    }

    // ---- promise 33

    private static void rich() {
        Check.says(33, "the COUNSEL with the most feathers of all BIRDS together (of several the least; none).");
        Check.due("none", -1, () -> new FeatherYard().rich());
        Check.says(33, "`int rich()`: RICH; NONE.");
        Check.due("birds without counsel", -1, () -> Check.yard(THREE).rich());
        Check.due("one counsel without feathers", 0, () -> Check.yard(THREE + ";counsel 000").rich());
        Check.due("all without feathers", 0, () -> Check.yard(THREE + ";counsel 000;counsel 000").rich());
        Check.due("one feather is more than none", 1, () -> Check.yard(THREE + ";counsel 000;counsel 001").rich());
        Check.due("all birds together", 1, () -> Check.yard(THREE + ";counsel 900;counsel 555;counsel 707").rich());
        Check.due("of several the least", 1, () -> Check.yard(THREE + ";counsel 100;counsel 020;counsel 200;counsel 011").rich());
        Check.due("the last one", 3, () -> Check.yard(SIX, SIX, "counsel 111111;counsel 111111;counsel 111111;counsel 111112").rich());
        FeatherYard x = Check.yard(THREE + ";counsel 000;counsel 900");
        x.weeks(60);
        Check.due("full stocks count as 99", 1, x::rich);
        x.give(1, 0, 0, 9);
        Check.due("60 and 9 and 99 against 60 and 99", 0, x::rich);
    }

    // ---- promise 34

    private static void wonBounds() {
        FeatherYard x = Check.yard(CASE);
        Check.says(34, NO_SUCH);
        Check.due("the last counsel", 0, () -> x.won(1, false));
        Check.index("counsel 2", () -> x.won(2, false));
        Check.index("of none", () -> new FeatherYard().won(0, true));
        for (int n : OUTSIDE) {
            Check.index("counsel " + n, () -> x.won(n, false));
            Check.index("counsel " + n, () -> x.won(n, true));
        }
    }

    private static void won(String name, FeatherYard x, int counsel, int won, int lost) {
        Check.due(name + ", won by " + counsel, won, () -> x.won(counsel, false));
        Check.due(name + ", lost by " + counsel, lost, () -> x.won(counsel, true));
    }

    private static void won() {
        Check.says(34, "WON: how many CASES a COUNSEL has; LOST: how many the other one of its CASES has.");
        String cases = ";case 0 1 present abc".repeat(6) + ";case 1 0 present abc".repeat(4);
        FeatherYard x = Check.yard(THREE + ";counsel 999;counsel 999;counsel 999;yard 7 to 7",
            cases.substring(1) + ";case 2 0 present abc;case 1 2 present abc");
        won("all open", x, 0, 0, 0);
        x.call(0, 0, 0);
        won("a marriage", x, 0, 0, 0);
        won("a marriage", x, 1, 0, 0);
        Check.layDown(x, "east 1");
        x.call(1, 0, 0);
        won("as if they had never met", x, 0, 0, 0);
        Check.layDown(x, "");
        x.call(2, 0, 2);
        x.call(3, 2, 0);
        won("one each", x, 0, 1, 1);
        won("one each", x, 1, 1, 1);
        x.call(6, 0, 2);
        won("the first one is counsel 1", x, 0, 1, 2);
        won("the first one is counsel 1", x, 1, 2, 1);
        won("no case of it", x, 2, 0, 0);
        x.call(10, 0, 2);
        won("counsel 2 as the first one", x, 2, 1, 0);
        won("it lost against another one", x, 0, 1, 3);
        x.call(11, 2, 0);
        won("counsel 2 as the second one", x, 2, 2, 0);
        x.appeal(3);
        won("opened again", x, 1, 1, 2);
        won("opened again", x, 0, 1, 2);
        FeatherYard all = Check.yard(THREE + ";counsel 999;counsel 999", "case 0 1 present abc;".repeat(11) + "case 0 1 present a");
        all.weeks(60);
        for (int m = 0; m < 11; m++) {
            all.call(m, 0, 2);
        }
        won("eleven", all, 0, 11, 0);
        Check.layDown(all, "lift 3;drop 4 if breath > 6");
        all.appeal(0);
        all.call(11, 0, 0);
        won("eleven less one", all, 1, 0, 10);
    }

    // ---- promise 35

    private static void cover() {
        Check.says(35, "the fewest BIRDS so that each CASE that is open has one of them PRESENT: of several the least as bits;");
        Check.due("of nothing", 0, () -> new FeatherYard().cover());
        Check.says(35, "of several the least as bits; none.");
        Check.due("no case", 0, () -> Check.yard(THREE + ";counsel 111").cover());
        FeatherYard x = Check.yard(THREE + ";counsel 999;counsel 999;case 0 1 present bc;case 0 1 present c");
        Check.due("one for both", 4, x::cover);
        x.call(1, 2, 2);
        Check.due("of several the least", 2, x::cover);
        x.call(0, 1, 1);
        Check.due("no case that is open", 0, x::cover);
        x.appeal(1);
        Check.due("one that is open again", 4, x::cover);
        FeatherYard stock = Check.yard(THREE + ";counsel 000;counsel 000;case 0 1 present ac");
        Check.due("present, though without feathers", 1, stock::cover);
    }

    private static void coverFewest() {
        Check.says(35, "the fewest BIRDS so that each CASE that is open has one of them PRESENT: of several the least as bits;");
        String[] six = {SIX, SIX, "counsel 111111;counsel 111111"};
        FeatherYard all = Check.yard(six[0], six[1], six[2], "case 0 1 present a;case 0 1 present b;case 0 1 present c;"
            + "case 0 1 present d;case 0 1 present e;case 0 1 present f");
        Check.due("all six", 63, all::cover);
        FeatherYard one = Check.yard(six[0], six[1], six[2], "case 0 1 present af;case 0 1 present bf;case 0 1 present cf");
        Check.due("one bird, though more as bits", 32, one::cover);
        FeatherYard two = Check.yard(six[0], six[1], six[2], "case 0 1 present ab;case 0 1 present cd;case 0 1 present bc");
        Check.due("a and c", 5, two::cover);
        FeatherYard three = Check.yard(six[0], six[1], six[2], "case 0 1 present ef;case 0 1 present ad;case 0 1 present bd");
        Check.due("d and e", 24, three::cover);
        FeatherYard last = Check.yard(six[0], six[1], six[2], "case 0 1 present a;".repeat(11) + "case 0 1 present f");
        Check.due("the 12th case", 33, last::cover);
    }

    // ---- promise 36

    private static void widestBounds() {
        FeatherYard x = Check.yard(THREE);
        Check.says(36, NO_SUCH);
        Check.index("bird 3", () -> x.widest(3));
        Check.index("of none", () -> new FeatherYard().widest(0));
        for (int n : OUTSIDE) {
            Check.index("bird " + n, () -> x.widest(n));
        }
    }

    private static void widest(String name, FeatherYard x, int bird, String yard, int want) {
        Check.tellCourt(x, yard);
        int from = x.count(9);
        int to = x.count(10);
        Check.due(name, want, () -> x.widest(bird));
        Check.due(name + ": the yard stays", from, () -> x.count(9));
        Check.due(name + ": the yard stays", to, () -> x.count(10));
    }

    private static void widestPlaces() {
        Check.says(36, "the first COLUMN of a YARD just as wide as this one, by which (all else as it is, over in THE LAW by that YARD)"
            + " the feather of a BIRD would be GOOD in the most of its WAYS (of several the least).");
        FeatherYard x = Check.yard(THREE);
        widest("all columns", x, 0, "yard 0 to 15", 0);
        widest("fifteen: the first of two", x, 0, "yard 1 to 15", 0);
        widest("just wide enough for all", x, 1, "yard 3 to 7", 5);
        widest("wider than all", x, 1, "yard 0 to 5", 4);
        widest("the best one", x, 1, "yard 0 to 0", 7);
        widest("two of the best three", x, 1, "yard 0 to 1", 6);
        widest("the last column", x, 0, "tower 15 top 8;yard 0 to 0", 15);
        widest("the last two columns", x, 0, "yard 3 to 4", 14);
        FeatherYard w = Check.yard(THREE, "tower 0 top 8");
        widest("the first column", w, 0, "yard 15 to 15", 0);
        widest("of two as many the first", w, 1, "yard 15 to 15", 0);
        widest("fifteen, by the last column", Check.yard(THREE, "tower 15 top 8"), 0, "yard 0 to 14", 1);
        FeatherYard never = three("", "lift 9");
        widest("good nowhere", never, 0, "yard 9 to 9", 0);
        FeatherYard over = three("", "east 1 if over and breath < 1");
        widest("over by that yard", over, 0, "yard 7 to 7", 0);
        widest("over by that yard, two wide", over, 0, "yard 9 to 10", 7);
        FeatherYard beyond = three("", "east 1 if not over;west 9 if over");
        widest("no yard goes beyond column 15", beyond, 0, "tower 14 top 4;yard 0 to 1", 0);
        FeatherYard not = three("", "east 1 if not over and breath < 1");
        widest("not over by that yard", not, 0, "yard 9 to 9", 7);
        widest("as the law is over this yard", not, 0, "yard 7 to 7", 7);
    }

    // ---- promises 37 and 38

    private static void trialBounds() {
        FeatherYard x = Check.yard(THREE);
        Check.says(37, "TRIAL. IllegalArgumentException: N is none.");
        Check.due("0", 0, () -> x.trial(0, 2, 0));
        Check.due("40", 40, () -> x.trial(0, 2, 40));
        Check.argument("41", () -> x.trial(0, 2, 41));
        for (int n : OUTSIDE) {
            Check.argument("n " + n, () -> x.trial(0, 2, n));
        }
        Check.says(37, NO_SUCH);
        Check.index("bird 3", () -> x.trial(3, 0, 1));
        Check.index("other 3", () -> x.trial(0, 3, 1));
        Check.index("of none", () -> new FeatherYard().trial(0, 0, 0));
        for (int n : OUTSIDE) {
            Check.index("bird " + n, () -> x.trial(n, 0, 1));
            Check.index("other " + n, () -> x.trial(0, n, 1));
        }
        Check.says(37, TOLD_FIRST);
        Check.index("no bird, no N", () -> x.trial(3, 0, 41));
        Check.index("no other, no N", () -> x.trial(0, 3, -1));
    }

    private static int next(int seed) {
        return (int) (1103515245L * seed + 12345L);
    }

    private static int gust(int seed) {
        return (int) (((seed & 0xffffffffL) >> 16) % 32768 % 3) - 1;
    }

    /** Two feathers that land in one breath: how often the gust of the first one is that, and not the other one's. */
    private static int has(int seed, int n, int gust) {
        int now = seed;
        int sum = 0;
        for (int i = 0; i < n; i++) {
            int one = next(now);
            now = next(one);
            sum += gust(one) == gust && gust(now) != gust ? 1 : 0;
        }
        return sum;
    }

    private static FeatherYard oneBreath(int gust) {
        return Check.yard(THREE, "tower 7 top 4;yard " + (7 + gust) + " to " + (7 + gust));
    }

    private static void trialDraws() {
        Check.says(37, "TRIAL of N CALLS (0 to 40) with two BIRDS from now (draws, too; CASES and STOCKS not looked at; nothing stays):"
            + " how often the first one has it.");
        int[] seeds = {1, 0, -1, Integer.MAX_VALUE, Integer.MIN_VALUE, 77};
        for (int g = -1; g <= 1; g++) {
            int gust = g;
            FeatherYard x = oneBreath(g);
            for (int seed : seeds) {
                x.seed(seed);
                for (int calls : new int[] {0, 1, 2, 39, 40}) {
                    int due = has(seed, calls, gust);
                    Check.due("trial of " + calls + " from " + seed, due, () -> x.trial(1, 1, calls));
                }
                Check.due("the seed stays", seed, () -> x.seed(1));
            }
        }
        FeatherYard y = Check.yard(THREE, "yard 7 to 7");
        Check.due("a marriage is none's", 0, () -> y.trial(0, 0, 40));
        Check.due("the second one's", 0, () -> y.trial(2, 0, 40));
        Check.due("never met", 0, () -> Check.yard(THREE, "yard 8 to 8").trial(0, 2, 40));
    }

    private static void trialLooks() {
        Check.says(37, "(draws, too; CASES and STOCKS not looked at; nothing stays)");
        FeatherYard bare = Check.yard(THREE);
        Check.due("without counsel, without cases", 3, () -> bare.trial(0, 2, 3));
        FeatherYard x = Check.yard(THREE + ";counsel 000;counsel 001;case 0 1 present b");
        x.hour(3);
        String before = Check.told(x);
        Check.due("without feathers", 40, () -> x.trial(0, 2, 40));
        Check.due("nothing stays", before, () -> Check.told(x));
        Check.due("as a case that is called would end", 1, () -> {
            FeatherYard y = Check.yard(CASE);
            y.seed(5);
            int tried = y.trial(1, 1, 1);
            return (y.call(0, 1, 1) == 1) == (tried == 1);
        });
    }

    private static void spanBounds() {
        FeatherYard x = Check.yard(THREE);
        Check.says(38, "SPAN: the fewest (most false), or the most. IllegalArgumentException: N is none.");
        Check.due("0", 0, () -> x.span(0, 2, 0, true));
        Check.due("40, the fewest", 40, () -> x.span(0, 2, 40, false));
        Check.due("40, the most", 40, () -> x.span(0, 2, 40, true));
        Check.argument("41", () -> x.span(0, 2, 41, false));
        Check.argument("41", () -> x.span(0, 2, 41, true));
        for (int n : OUTSIDE) {
            Check.argument("n " + n, () -> x.span(0, 2, n, true));
        }
        Check.says(38, NO_SUCH);
        Check.index("bird 3", () -> x.span(3, 0, 1, true));
        Check.index("other 3", () -> x.span(0, 3, 1, false));
        Check.index("of none", () -> new FeatherYard().span(0, 0, 0, true));
        for (int n : OUTSIDE) {
            Check.index("bird " + n, () -> x.span(n, 0, 1, false));
            Check.index("other " + n, () -> x.span(0, n, 1, true));
        }
        Check.says(38, TOLD_FIRST);
        Check.index("no bird, no N", () -> x.span(3, 0, 41, true));
        Check.index("no other, no N", () -> x.span(0, 3, -1, false));
    }

    private static void spanSeeds() {
        Check.says(38, "SPAN: the fewest and the most such from SEED 1, 2, .. 6.");
        for (int g = -1; g <= 1; g++) {
            FeatherYard x = oneBreath(g);
            x.seed(7);
            for (int n = 0; n <= 40; n++) {
                int calls = n;
                int fewest = 99;
                int most = -1;
                for (int seed = 1; seed <= 6; seed++) {
                    int sum = has(seed, n, g);
                    fewest = Math.min(fewest, sum);
                    most = Math.max(most, sum);
                }
                Check.due("the fewest of " + n, fewest, () -> x.span(1, 1, calls, false));
                Check.due("the most of " + n, most, () -> x.span(1, 1, calls, true));
            }
            Check.due("the seed stays", 7, () -> x.seed(1));
        }
    }

    // ---- all of them

    private static void ask(FeatherYard x) {
        for (int bird = 0; bird < 3; bird++) {
            x.ways(bird, 0);
            x.lands(bird, 7);
            x.good(bird, 1);
            x.straight(bird, true);
            x.odds(bird, 2 - bird, 1);
            x.best(bird, 7);
            x.when(bird, 0);
            x.lasts(0, bird, 99);
            x.widest(bird);
            x.trial(bird, 1, 40);
            x.span(bird, 1, 40, true);
        }
        x.surest(0, true, true);
        x.rests(0, true);
        x.fair(0);
        sets(x, "\0\1");
        told(x, "\0\1").ask();
        x.tell(7, 2);
        x.alike();
        x.rich();
        x.won(0, true);
        x.cover();
    }

    private static void nothingIsAnAct() {
        Check.says(37, "ACTS: a CASE is CALLED; HOUR is told; WIND of a LEVEL is told;");
        FeatherYard x = Check.yard(CASE);
        Check.layDown(x, "east 1 if over and hour > 12;drop 1 if high");
        x.hour(13);
        x.blow(8, -2);
        String before = Check.told(x);
        ask(x);
        Check.due("nothing that is asked changes anything", before, () -> Check.told(x));
        Check.due("two acts", 2, () -> x.count(14));
        x.undo();
        ask(x);
        x.undo();
        Check.due("nor is it an act", 12, () -> x.count(6));
    }

    private static void nothingOfThrows() {
        FeatherYard x = Check.yard(CASE);
        x.hour(3);
        Check.court(x, "hour 24");
        int fault = x.fault();
        String before = Check.told(x);
        Check.says(28, NOTHING);
        Check.argument("songs", () -> told(x, "\7\7").songs(true));
        Check.due("nothing", before, () -> Check.told(x));
        Check.due("fault", fault, x::fault);
        Check.says(29, NOTHING);
        Check.argument("ask", () -> told(x, "\7\7").ask());
        Check.due("nothing", before, () -> Check.told(x));
        Check.due("fault", fault, x::fault);
        Check.says(18, NOTHING);
        Check.put(x, "hour 9");
        Check.element("ways", () -> x.ways(0, 4));
        Check.index("when", () -> x.when(0, 3));
        Check.index("widest", () -> x.widest(3));
        Check.argument("span", () -> x.span(0, 0, 41, true));
        Check.argument("tell", () -> x.tell(0, 9));
        Check.index("surest", () -> x.surest(1, true, true));
        Check.due("a call that needs no tape leaves it", 1, () -> x.end(6));
        x.end(0);
        Check.due("nothing", before, () -> Check.told(x));
    }
}
