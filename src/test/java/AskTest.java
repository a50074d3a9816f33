/** Promises 18 to 38: where feathers fall, odds, choices, songs, stocks, covers, trials and spans. */
public final class AskTest {
    private static final int ALL = 6561 * 6561;
    /** One falls straight in two breaths, one drifts by a gust each in two, one falls straight in four. */
    private static final String THREE = "bird falls 4 light 0 songs ab moults 1;bird falls 4 light 1 songs b moults 0;"
        + "bird falls 2 light 0 songs cd moults 3;counsel 111;counsel 221;counsel 000";

    public static void main(String[] args) {
        ways();
        waysOfTheLaw();
        lands();
        goods();
        straight();
        odds();
        best();
        when();
        surest();
        surestByHundredths();
        rests();
        fair();
        songs();
        ask();
        tell();
        alike();
        lasts();
        rich();
        won();
        cover();
        widest();
        trial();
        span();
        nothingChanges();
        Check.close("AskTest");
    }

    private static void ways() {
        FeatherYard x = Check.yard(CourtTest.COURT);
        int[][] want = {{6561, 0, 0, 0}, {4427, 1, 0, 2133}, {4374, 0, 0, 2187}};
        for (int b = 0; b < 3; b++) {
            for (int w = 0; w < 4; w++) {
                int bird = b;
                int what = w;
                Check.due("ways " + b + " " + w, want[b][w], () -> x.ways(bird, what));
            }
        }
        Check.index("ways", () -> x.ways(3, 9));
        Check.index("ways", () -> x.ways(-1, 0));
        Check.element("ways", () -> x.ways(0, 4));
        Check.element("ways", () -> x.ways(0, -1));
        x.blow(4, -1);
        Check.due("another wind", 4374, () -> x.ways(2, 0));
        Check.due("to the other side", 2187, () -> x.lands(2, 5));
        x.undo();
        Check.due("the wind of then", 2187, () -> x.lands(2, 9));
    }

    private static void waysOfTheLaw() {
        FeatherYard x = Check.yard(THREE, "tower 7 top 8");
        Check.law(x, "lift 9");
        Check.due("in the air", 6561, () -> x.ways(0, 2));
        Check.due("8 gusts one way are blown off to the west", 1, () -> x.ways(1, 1));
        Check.due("the others stay", 6560, () -> x.ways(1, 2));
        Check.law(x, "drop 9;east 9");
        Check.due("blown off whatever its level", 6561, () -> x.ways(0, 1));
        Check.law(x, "drop 9;east 8");
        Check.due("beside", 6561, () -> x.ways(0, 3));
        Check.due("in the last column", 6561, () -> x.lands(0, 15));
        Check.due("a third is blown off", 2187, () -> x.ways(1, 1));
        Check.law(x, "lift 9 if breath<7;drop 9 if breath>6");
        Check.due("in the last breath", 6561, () -> x.good(0, 8));
        Check.law(x, "lift 9 if column>6;drop 9 if not column>6");
        Check.due("the first gust to the west", 2187, () -> x.good(1, 2));
    }

    private static void lands() {
        FeatherYard x = Check.yard(THREE);
        int[] want = {0, 729, 1458, 2187, 1458, 729, 0};
        for (int c = 4; c <= 10; c++) {
            int column = c;
            Check.due("lands " + c, want[c - 4], () -> x.lands(1, column));
        }
        Check.index("lands", () -> x.lands(3, 0));
        Check.index("lands", () -> x.lands(0, 16));
        Check.index("lands", () -> x.lands(0, -1));
        Check.due("lands", 0, () -> x.lands(0, 0));
    }

    private static void goods() {
        FeatherYard x = Check.yard(THREE, "yard 7 to 8");
        Check.due("good", 3645, () -> x.good(1, 2));
        Check.due("good", 0, () -> x.good(1, 1));
        Check.due("good", 6561, () -> x.good(2, 4));
        Check.due("good", 0, () -> x.good(2, 8));
        Check.index("good", () -> x.good(3, 0));
        Check.argument("good", () -> x.good(0, 0));
        Check.argument("good", () -> x.good(0, 9));
    }

    private static void straight() {
        FeatherYard x = Check.yard(THREE);
        Check.due("straight", 7, () -> x.straight(1, false));
        Check.due("straight", 4, () -> x.straight(2, true));
        Check.law(x, "east 5");
        Check.due("blown off", -1, () -> x.straight(2, false));
        Check.due("blown off", -1, () -> x.straight(2, true));
        Check.law(x, "east 4");
        Check.due("beside the yard", 15, () -> x.straight(1, false));
        Check.law(x, "lift 3");
        Check.due("in the last breath", 8, () -> x.straight(0, true));
        Check.due("in the air", -1, () -> x.straight(2, true));
        Check.index("straight", () -> x.straight(3, true));
        Check.index("straight", () -> x.straight(-1, false));
    }

    private static void odds() {
        FeatherYard x = Check.yard(THREE, "yard 7 to 8");
        int[][] want = {{0, 0, ALL, 0}, {6561 * 2916, 0, 6561 * 3645, 0}, {ALL, 0, 0, 0}};
        for (int b = 0; b < 3; b++) {
            for (int w = 0; w < 4; w++) {
                int other = b;
                int what = w;
                Check.due("odds 0 " + b + " " + w, want[b][w], () -> x.odds(0, other, what));
            }
        }
        Check.due("odds", 3645 * 2916, () -> x.odds(1, 1, 0));
        Check.due("odds", 3645 * 2916, () -> x.odds(1, 1, 1));
        Check.due("odds", 3645 * 3645, () -> x.odds(1, 1, 2));
        Check.due("odds", 2916 * 2916, () -> x.odds(1, 1, 3));
        Check.due("an earlier breath", 3645 * 6561, () -> x.odds(1, 2, 0));
        Check.due("the later one", 2916 * 6561, () -> x.odds(1, 2, 1));
        Check.index("odds", () -> x.odds(3, 0, 9));
        Check.index("odds", () -> x.odds(0, 3, 0));
        Check.element("odds", () -> x.odds(0, 0, 4));
        Check.element("odds", () -> x.odds(0, 0, -1));
    }

    private static void best() {
        FeatherYard x = Check.yard(THREE, "yard 7 to 8");
        Check.due("best", 0, () -> x.best(2, 7));
        Check.due("best", 1, () -> x.best(2, 6));
        Check.due("of several the least", 0, () -> x.best(0, 7));
        Check.due("of several the least", 1, () -> x.best(0, -2));
        Check.due("none", -1, () -> x.best(0, 0));
        Check.due("of none", -1, () -> x.best(0, 8));
        Check.due("of none", 2, () -> x.best(0, 4 + 64));
        Check.index("best", () -> x.best(3, 7));
        Check.index("best", () -> x.best(-1, 7));
    }

    private static void when() {
        FeatherYard x = Check.yard(THREE, "yard 7 to 8");
        Check.due("of several the least", 0, () -> x.when(0, 1));
        Check.law(x, "east 1 if bird > 0 and hour > 16;east 1 if bird > 0 and hour > 18;east 1 if bird < 1 and hour < 3");
        Check.due("when", 19, () -> x.when(0, 1));
        Check.due("all else as it is", 12, () -> x.count(6));
        Check.due("no act", 0, () -> x.count(14));
        Check.due("when for the other one", 0, () -> x.when(1, 0));
        Check.law(x, "west 9 if hour < 24");
        Check.due("never good: the least", 0, () -> x.when(0, 1));
        Check.law(x, "west 9 if hour < 23");
        Check.due("the last hour", 23, () -> x.when(0, 1));
        Check.due("not good at noon", 0, () -> x.ways(0, 0));
        x.hour(23);
        Check.due("good in the last hour", 6561, () -> x.ways(0, 0));
        x.image();
        x.hour(1);
        Check.due("not good then", 0, () -> x.ways(0, 0));
        x.back();
        Check.due("good again", 6561, () -> x.ways(0, 0));
        Check.index("when", () -> x.when(3, 0));
        Check.index("when", () -> x.when(0, -1));
    }

    private static void surest() {
        FeatherYard x = Check.yard(CourtTest.COURT);
        Check.due("surest", 2, () -> x.surest(0, false, false));
        Check.due("hundredths, rounded down", 22, () -> x.surest(0, false, true));
        Check.due("surest", 2, () -> x.surest(0, true, false));
        Check.due("surest", 21, () -> x.surest(1, true, true));
        Check.index("surest", () -> x.surest(2, false, false));
        x.give(1, 0, 1, 1);
        Check.due("no choices of one", -1, () -> x.surest(1, false, false));
        Check.due("no choices of one", -1, () -> x.surest(1, true, true));
        x.call(0, 0, 2);
        Check.state("not open", () -> x.surest(0, false, false));
        FeatherYard y = Check.yard(THREE, "case 0 1 present c;case 1 0 present ac;yard 7 to 8");
        y.give(0, 1, 0, 1);
        Check.due("never", 0, () -> y.surest(0, false, true));
        Check.due("always", 0, () -> y.surest(1, false, false));
        Check.due("always", 100, () -> y.surest(1, false, true));
        Check.due("of the other one", 2, () -> y.surest(1, true, false));
        Check.due("of the other one", 0, () -> y.surest(1, true, true));
    }

    /** Two birds whose ways differ by less than a hundredth are alike: the least is taken. */
    private static void surestByHundredths() {
        FeatherYard x = Check.yard("bird falls 1 light 1 songs a moults 0;bird falls 1 light 1 songs a moults 0;"
            + "bird falls 1 light 0 songs a moults 0;counsel 110;counsel 001;case 0 1 present abc;yard 0 to 7");
        Check.law(x, "west 9 if bird > 1;lift 1 if bird < 1 and level < 2 and breath < 8 and column < 1");
        Check.due("less ways", 1, () -> x.ways(0, 0) < x.ways(1, 0));
        Check.due("less odds", 1, () -> x.odds(0, 2, 0) < x.odds(1, 2, 0));
        Check.due("as many hundredths", 0, () -> x.odds(0, 2, 0) * 100L / ALL - x.odds(1, 2, 0) * 100L / ALL);
        Check.due("the least", 0, () -> x.surest(0, false, false));
    }

    private static void rests() {
        FeatherYard x = Check.yard(CourtTest.COURT);
        Check.due("rests", 2, () -> x.rests(0, false));
        Check.due("the first", 2, () -> x.rests(0, true));
        Check.due("rests", 1, () -> x.rests(1, false));
        Check.due("the first", 11, () -> x.rests(1, true));
        Check.index("rests", () -> x.rests(2, true));
        Check.index("rests", () -> x.rests(-1, true));
        x.give(1, 0, 1, 1);
        Check.due("no choices", 0, () -> x.rests(1, false));
        Check.due("no choices", -1, () -> x.rests(1, true));
        x.call(0, 0, 2);
        Check.state("not open", () -> x.rests(0, false));
        FeatherYard z = Check.yard(THREE, "counsel 020;case 3 1 present bc;yard 7 to 8");
        Check.due("choices of their own", 1, () -> z.rests(0, false));
        Check.due("choices of their own", 12, () -> z.rests(0, true));
        FeatherYard y = Check.yard(THREE, "case 1 0 present abc;yard 7 to 8");
        Check.due("whatever meets the one, has it never", 5, () -> y.rests(0, false));
        Check.due("the least of several", 0, () -> y.rests(0, true));
    }

    private static void fair() {
        FeatherYard x = Check.yard(CourtTest.COURT);
        Check.due("fair", 0, () -> x.fair(0));
        Check.due("fair", 11, () -> x.fair(1));
        Check.index("fair", () -> x.fair(2));
        x.give(1, 0, 1, 1);
        Check.due("none", -1, () -> x.fair(1));
        x.call(0, 0, 2);
        Check.state("not open", () -> x.fair(0));
        FeatherYard y = Check.yard("bird falls 4 light 1 songs a moults 0;bird falls 2 light 1 songs a moults 0;"
            + "bird falls 4 light 0 songs a moults 0;counsel 101;counsel 010;case 0 1 present abc;yard 7 to 7");
        Check.due("the nearest", 1, () -> y.fair(0));
    }

    private static void songs() {
        FeatherYard x = Check.yard(THREE);
        Check.due("none told", 8, () -> heard(x, ""));
        Check.due("a", 4, () -> heard(x, "\0\1"));
        Check.due("a, sure", 1, () -> sure(x, "\0\1"));
        Check.due("b", 6, () -> heard(x, "\1\1"));
        Check.due("b, sure of none", 0, () -> sure(x, "\1\1"));
        Check.due("b, not a", 2, () -> heard(x, "\1\1\0\0"));
        Check.due("b, not a, sure", 2, () -> sure(x, "\1\1\0\0"));
        Check.due("a, d", 2, () -> heard(x, "\0\1\3\1"));
        Check.due("a, d, sure", 5, () -> sure(x, "\0\1\3\1"));
        Check.due("a, not b", 0, () -> heard(x, "\0\1\1\0"));
        Check.due("a, not b, sure", 0, () -> sure(x, "\0\1\1\0"));
        Check.due("both", 0, () -> heard(x, "\0\1\0\0"));
        Check.due("none of all", 1, () -> heard(x, "\0\0\1\0\2\0\3\0"));
        Check.due("f", 0, () -> heard(x, "\5\1"));
        Check.due("40 bytes", 4, () -> heard(x, "\0\1".repeat(20)));
        Check.argument("42 bytes", () -> told(x, "\0\1".repeat(21)).songs(false));
        Check.due("used up", 0, () -> x.end(1));
        Check.argument("an odd byte", () -> told(x, "\0\1\0").songs(true));
        Check.argument("no song", () -> told(x, "\6\1").songs(true));
        Check.argument("neither", () -> told(x, "\0\1\0\2").songs(true));
        Check.argument("a high byte", () -> told(x, "\u0080\1").songs(true));
        Check.argument("a high byte", () -> told(x, "\0\u0081").songs(false));
    }

    private static FeatherYard told(FeatherYard x, String tape) {
        Check.put(x, tape);
        return x;
    }

    private static int heard(FeatherYard x, String tape) {
        return told(x, tape).songs(false);
    }

    private static int sure(FeatherYard x, String tape) {
        return told(x, tape).songs(true);
    }

    private static void ask() {
        FeatherYard x = Check.yard(THREE);
        Check.due("ask", 0, () -> told(x, "").ask());
        Check.due("ask of b", 2, () -> told(x, "\1\1").ask());
        Check.due("ask of b, not c", 0, () -> told(x, "\1\1\2\0").ask());
        Check.due("one set alone", -1, () -> told(x, "\0\0\1\0\2\0").ask());
        Check.due("no set", -1, () -> told(x, "\5\1").ask());
        Check.argument("wrong", () -> told(x, "\0").ask());
        Check.argument("wrong", () -> told(x, "\6\0").ask());
        Check.argument("wrong", () -> told(x, "\0\2").ask());
        Check.argument("wrong", () -> told(x, "\0\0".repeat(21)).ask());
        Check.due("used up", 0, () -> x.end(1));
        FeatherYard y = Check.yard("bird falls 4 light 0 songs c moults 1;bird falls 4 light 0 songs c moults 1");
        Check.due("no song parts them: the least", 0, () -> told(y, "\2\1").ask());
        Check.due("c parts them", 2, () -> told(y, "").ask());
    }

    private static void tell() {
        FeatherYard x = Check.yard(THREE);
        Check.due("tell", 3, () -> x.tell(7, 2));
        Check.due("tell", 2, () -> x.tell(5, 2));
        Check.due("tell", 4, () -> x.tell(7, 4));
        Check.due("tell", 0, () -> x.tell(4, 2));
        Check.due("tell", 0, () -> x.tell(7, 8));
        Check.index("tell", () -> x.tell(16, 0));
        Check.index("tell", () -> x.tell(-1, 1));
        Check.argument("tell", () -> x.tell(0, 0));
        Check.argument("tell", () -> x.tell(0, 9));
        Check.court(x, "yard 0 to 0");
        Check.due("beside the yard, too", 3, () -> x.tell(7, 2));
    }

    private static void alike() {
        FeatherYard x = Check.yard(THREE, "yard 5 to 9");
        Check.due("alike", 1, x::alike);
        Check.court(x, "yard 7 to 8");
        Check.due("none alike", 0, x::alike);
        Check.court(x, "bird falls 4 light 0 songs c moults 0;bird falls 2 light 0 songs c moults 0");
        Check.due("two pairs", 2, x::alike);
        Check.court(x, "yard 0 to 1");
        Check.due("all pairs, good in none", 10, x::alike);
    }

    private static void lasts() {
        FeatherYard x = Check.yard(THREE);
        Check.due("now", 0, () -> x.lasts(0, 0, 1));
        Check.due("later", 98, () -> x.lasts(0, 0, 99));
        Check.due("from 0 on", 99, () -> x.lasts(2, 0, 99));
        Check.due("in threes", 3, () -> x.lasts(0, 2, 10));
        Check.due("in threes", 4, () -> x.lasts(0, 2, 11));
        Check.due("never", -1, () -> x.lasts(0, 1, 2));
        Check.index("lasts", () -> x.lasts(3, 0, 0));
        Check.index("lasts", () -> x.lasts(0, 3, 0));
        Check.argument("lasts", () -> x.lasts(0, 0, 0));
        Check.argument("lasts", () -> x.lasts(0, 0, 100));
        Check.due("no week more", 0, () -> x.count(5));
    }

    private static void rich() {
        FeatherYard x = Check.yard(THREE);
        Check.due("rich", 1, x::rich);
        x.give(1, 2, 0, 2);
        Check.due("of several the least", 0, x::rich);
        FeatherYard y = Check.yard("bird falls 1 light 1 songs a moults 0;counsel 0;counsel 0");
        Check.due("without feathers", 0, y::rich);
    }

    private static void won() {
        FeatherYard x = Check.yard(THREE, "case 0 1 present abc;case 1 0 present abc;case 0 1 present abc;yard 7 to 7");
        Check.law(x, "east 9 if bird > 0 and bird < 2");
        Check.due("0 as the first one", 1, () -> x.call(0, 0, 2));
        Check.due("1 as the first one", 1, () -> x.call(1, 0, 2));
        Check.due("1 as the second one", 2, () -> x.call(2, 1, 0));
        Check.due("won by 0", 1, () -> x.won(0, false));
        Check.due("won by 1", 2, () -> x.won(1, false));
        Check.due("lost by 0", 2, () -> x.won(0, true));
        Check.due("lost by 1", 1, () -> x.won(1, true));
        Check.due("not its cases", 0, () -> x.won(2, false));
        Check.due("not its cases", 0, () -> x.won(2, true));
        x.appeal(0);
        Check.due("open again", 0, () -> x.won(0, false));
        Check.due("open again", 0, () -> x.won(1, true));
        Check.index("won", () -> x.won(3, false));
        Check.index("won", () -> x.won(-1, true));
    }

    private static void cover() {
        FeatherYard x = Check.yard(THREE);
        Check.due("no case", 0, x::cover);
        Check.court(x, "case 0 1 present ab;case 0 1 present bc");
        Check.due("one bird", 2, x::cover);
        Check.court(x, "case 0 1 present ac");
        Check.due("two birds, the least", 3, x::cover);
        Check.court(x, "case 0 1 present c");
        Check.due("two birds", 5, x::cover);
        x.call(3, 2, 2);
        Check.due("open ones alone", 3, x::cover);
    }

    private static void widest() {
        FeatherYard x = Check.yard(THREE);
        Check.due("widest", 3, () -> x.widest(0));
        Check.due("just wide enough", 5, () -> x.widest(1));
        Check.court(x, "yard 3 to 4");
        Check.due("two wide", 6, () -> x.widest(1));
        Check.due("the yard stays", 3, () -> x.count(9));
        Check.due("the yard stays", 4, () -> x.count(10));
        Check.court(x, "yard 0 to 15");
        Check.due("all", 0, () -> x.widest(1));
        Check.court(x, "yard 5 to 5");
        Check.law(x, "west 3 if over and breath < 1;east 1 if not over");
        Check.due("over by that yard", 8, () -> x.widest(0));
        Check.law(x, "lift 9");
        Check.due("good nowhere", 0, () -> x.widest(0));
        Check.court(x, "yard 5 to 6");
        Check.law(x, "east 7 if breath<1;west 9 if over and breath>0;east 1 if not over and breath>0");
        Check.due("no yard goes beyond column 15", 0, () -> x.widest(0));
        Check.index("widest", () -> x.widest(3));
        Check.index("widest", () -> x.widest(-1));
    }

    /** From seed 1 on the gusts are 1, 0, -1, 0, 0, 1, -1, -1, -1, -1. */
    private static void trial() {
        FeatherYard x = Check.yard(THREE, "yard 8 to 8");
        Check.law(x, "drop 9");
        Check.due("the first gust", 1, () -> x.trial(1, 0, 1));
        Check.due("two draws each: 1, -1, 0, -1, -1", 1, () -> x.trial(1, 0, 5));
        Check.due("the other one's draws: 0, 0, 1", 0, () -> x.trial(0, 1, 3));
        Check.due("none", 0, () -> x.trial(1, 0, 0));
        Check.due("40", 1, () -> x.trial(1, 1, 40) >= 0);
        Check.due("the seed stays", 1, () -> x.seed(1103527590));
        Check.due("from now", 0, () -> x.trial(1, 0, 2));
        Check.due("from now: 0, 0, 1", 0, () -> x.trial(1, 0, 2));
        Check.due("from now: 0, 0, 1", 1, () -> x.trial(1, 0, 3));
        Check.index("trial", () -> x.trial(3, 0, -1));
        Check.index("trial", () -> x.trial(0, 3, 1));
        Check.argument("trial", () -> x.trial(0, 0, 41));
        Check.argument("trial", () -> x.trial(0, 0, -1));
    }

    private static void span() {
        FeatherYard x = Check.yard(THREE, "yard 7 to 8");
        int fewest = 99;
        int most = -1;
        for (int seed = 1; seed <= 6; seed++) {
            x.seed(seed);
            int sum = x.trial(1, 2, 7);
            fewest = Math.min(fewest, sum);
            most = Math.max(most, sum);
        }
        x.seed(99);
        Check.due("fewest", fewest, () -> x.span(1, 2, 7, false));
        Check.due("most", most, () -> x.span(1, 2, 7, true));
        Check.due("not all alike", 1, () -> x.span(1, 2, 7, false) < x.span(1, 2, 7, true));
        Check.due("the seed stays", 99, () -> x.seed(1));
        Check.due("none", 0, () -> x.span(1, 2, 0, true));
        Check.due("always", 40, () -> x.span(0, 2, 40, false));
        Check.index("span", () -> x.span(3, 0, 41, true));
        Check.index("span", () -> x.span(0, -1, 1, true));
        Check.argument("span", () -> x.span(0, 0, 41, true));
        Check.argument("span", () -> x.span(0, 0, -1, false));
    }

    /** No question is an act, and none changes what there is. */
    private static void nothingChanges() {
        FeatherYard x = Check.yard(CourtTest.COURT);
        x.hour(5);
        x.ways(0, 0);
        x.when(0, 1);
        x.widest(1);
        x.trial(0, 1, 9);
        x.span(0, 1, 9, true);
        x.surest(0, true, true);
        x.rests(0, true);
        x.fair(0);
        x.tell(1, 1);
        x.straight(1, true);
        int[] want = {3, 2, 2, 1, -1, 0, 5, 7, 8, 5, 9, 3, 0, 0, 1};
        for (int what = 0; what < want.length; what++) {
            int w = what;
            Check.due("nothing changes: count(" + w + ")", want[w], () -> x.count(w));
        }
        Check.due("seed", 1, () -> x.seed(1));
        Check.due("ways", 4427, () -> x.ways(1, 0));
    }
}
