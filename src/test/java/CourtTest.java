/** Promises 7 to 17 and 39 to 45: what there is, acts, the log, seed, undo, image, back and count. */
public final class CourtTest {
    static final String BIRDS = "bird falls 2 light 0 songs ab moults 1;bird falls 1 light 1 songs bc moults 0;"
        + "bird falls 4 light 2 songs c moults 2;";
    static final String COURT = BIRDS + "counsel 321;counsel 213;case 0 1 present abc;case 1 0 present b;"
        + "tower 7 top 8;yard 5 to 9;wind 4 east 1";
    /** Both fall as the draws tell: the one in two breaths, the other one in four. */
    private static final String DRAWN = "bird falls 4 light 1 songs a moults 5;bird falls 2 light 1 songs a moults 1;"
        + "bird falls 4 light 0 songs a moults 0;counsel 999;counsel 999;case 0 1 present abc";

    public static void main(String[] args) {
        birds();
        stocks();
        cases();
        winds();
        moves();
        calls();
        callsThatCannotBe();
        hours();
        blows();
        gives();
        appeals();
        weeks();
        led();
        log();
        seeds();
        undone();
        undoneAll();
        twelveActs();
        images();
        Check.close("CourtTest");
    }

    private static int drawn(int times) {
        int seed = 1;
        for (int i = 0; i < times; i++) {
            seed = 1103515245 * seed + 12345;
        }
        return seed;
    }

    private static void birds() {
        FeatherYard x = Check.yard(COURT);
        int[][] want = {{2, 0, 3, 1}, {1, 1, 6, 0}, {4, 2, 4, 2}};
        for (int b = 0; b < 3; b++) {
            for (int w = 0; w < 4; w++) {
                int bird = b;
                int what = w;
                Check.due("bird " + b + " " + w, want[b][w], () -> x.bird(bird, what));
            }
        }
        Check.index("bird -1", () -> x.bird(-1, 0));
        Check.index("bird 3", () -> x.bird(3, 0));
        Check.index("bird 3, no what", () -> x.bird(3, 4));
        Check.element("bird what -1", () -> x.bird(0, -1));
        Check.element("bird what 4", () -> x.bird(0, 4));
    }

    private static void stocks() {
        FeatherYard x = Check.yard(COURT);
        Check.due("stock", 2, () -> x.stock(0, 1));
        Check.due("stock", 3, () -> x.stock(1, 2));
        Check.index("stock", () -> x.stock(2, 0));
        Check.index("stock", () -> x.stock(-1, 0));
        Check.index("stock", () -> x.stock(0, 3));
        Check.index("stock", () -> x.stock(0, -1));
    }

    private static void cases() {
        FeatherYard x = Check.yard(COURT);
        int[][] want = {{0, 1, 7, 0, 7, 7}, {1, 0, 2, 0, 2, 2}};
        for (int c = 0; c < 2; c++) {
            for (int w = 0; w < 6; w++) {
                int matter = c;
                int what = w;
                Check.due("matter " + c + " " + w, want[c][w], () -> x.matter(matter, what));
            }
        }
        Check.index("matter 2", () -> x.matter(2, 9));
        Check.index("matter -1", () -> x.matter(-1, 0));
        Check.element("matter what 6", () -> x.matter(0, 6));
        Check.element("matter what -1", () -> x.matter(0, -1));
        x.give(0, 1, 2, 1);
        Check.due("no feather, no choice", 3, () -> x.matter(0, 4));
        Check.due("the other one's choices", 7, () -> x.matter(0, 5));
    }

    private static void winds() {
        FeatherYard x = Check.yard(COURT);
        Check.due("wind", 1, () -> x.wind(4));
        Check.due("wind", 0, () -> x.wind(0));
        Check.due("wind", 0, () -> x.wind(12));
        Check.index("wind", () -> x.wind(13));
        Check.index("wind", () -> x.wind(-1));
        Check.due("not calm", 0, () -> x.count(12));
        x.blow(4, 0);
        Check.due("calm", 1, () -> x.count(12));
    }

    private static void moves() {
        FeatherYard x = Check.yard(COURT);
        Check.law(x, "drop 2 if high;lift 1 if over;east 3 if level+breath>8;west 1 if hour<13 and not light>1");
        Check.due("sinks", 3, () -> x.moves(0, 8, 7, 0, false));
        Check.due("carried", -1, () -> x.moves(0, 8, 7, 0, true));
        Check.due("a breath later", 2, () -> x.moves(0, 8, 7, 1, true));
        Check.due("neither high nor over", 2, () -> x.moves(0, 4, 4, 0, false));
        Check.due("the yard's first column", 1, () -> x.moves(0, 4, 5, 0, false));
        Check.due("the yard's last column", 1, () -> x.moves(0, 4, 9, 0, false));
        Check.due("behind it", 2, () -> x.moves(0, 4, 10, 0, false));
        Check.due("wind times light", 2, () -> x.moves(2, 4, 10, 0, true));
        Check.due("wind and west", 0, () -> x.moves(1, 4, 10, 0, true));
        x.hour(13);
        Check.due("another hour", 0, () -> x.moves(0, 8, 7, 0, true));
        Check.court(x, "tower 7 top 7");
        Check.due("above the half of 7", 4, () -> x.moves(0, 4, 0, 0, false));
        Check.due("not above the half of 7", 2, () -> x.moves(0, 3, 0, 0, false));
        Check.due("above the top", 4, () -> x.moves(0, 12, 0, 0, false));
        Check.law(x, "lift 9;lift 9");
        Check.due("0 at least", 0, () -> x.moves(2, 8, 7, 0, false));
        Check.law(x, "drop 9;drop 9;drop 9;lift 9");
        Check.due("12 at most", 12, () -> x.moves(2, 8, 7, 0, false));
        Check.law(x, "west 9;west 9 if bird>0 or column<1;east 1 if (bird<1 or column<1) and column<1");
        Check.due("or behind and", -17, () -> x.moves(0, 8, 0, 0, true));
        Check.due("west alone", -9, () -> x.moves(0, 8, 1, 0, true));
        Check.due("west twice", -18, () -> x.moves(1, 8, 1, 0, true));
        Check.law(x, "east 1 if bird<1 or column<1 and level<1;east 2 if not(high or over)and not high;"
            + "east 4 if not high and over;east 5 if 2<2 or 2>2");
        Check.due("and before or", 1, () -> x.moves(0, 8, 7, 0, true));
        Check.due("not of all", 3, () -> x.moves(0, 1, 0, 0, true));
        Check.due("not of the one", 5, () -> x.moves(0, 1, 7, 0, true));
        Check.index("bird", () -> x.moves(3, 1, 0, 9, true));
        Check.index("level 0", () -> x.moves(0, 0, 0, 9, true));
        Check.index("level 13", () -> x.moves(0, 13, 0, 0, true));
        Check.index("column -1", () -> x.moves(0, 1, -1, 0, true));
        Check.index("column 16", () -> x.moves(0, 1, 16, -1, true));
        Check.argument("breath -1", () -> x.moves(0, 1, 0, -1, true));
        Check.argument("breath 8", () -> x.moves(0, 1, 0, 8, true));
        Check.due("breath 7", 0, () -> x.moves(1, 1, 15, 7, false) - x.moves(1, 1, 15, 7, false));
    }

    /** From seed 1 on the gusts are 1, 0, -1, 0, 0, 1, -1, -1, -1, -1. */
    private static void calls() {
        FeatherYard x = Check.yard(DRAWN, "yard 8 to 8");
        Check.due("the second one", 2, () -> x.call(0, 0, 1));
        Check.due("six draws", drawn(6), () -> x.seed(1));
        Check.due("its breath", 4, () -> x.log(0, 5));
        Check.due("its end", 2, () -> x.matter(0, 3));
        Check.due("a feather less", 8, () -> x.stock(0, 0));
        Check.due("a feather less", 8, () -> x.stock(1, 1));
        Check.due("no other", 9, () -> x.stock(0, 1));
        Check.due("not open", 0, () -> x.count(11));
        FeatherYard y = Check.yard(DRAWN, "yard 7 to 7");
        Check.due("a marriage", 3, () -> y.call(0, 0, 0));
        Check.due("four draws", drawn(4), () -> y.seed(1));
        Check.due("its breath", 2, () -> y.log(0, 5));
        y.appeal(0);
        Check.due("the first one", 1, () -> y.call(0, 0, 1));
        Check.due("the other one flies on", drawn(6), () -> y.seed(1));
        y.appeal(0);
        Check.due("without light draws are drawn, too", 3, () -> y.call(0, 2, 0));
        Check.due("four draws", drawn(4), () -> y.seed(1));
        FeatherYard z = Check.yard(DRAWN, "yard 0 to 1");
        Check.due("as if they had never met", 4, () -> z.call(0, 2, 0));
        Check.due("nobody", 0, () -> z.log(0, 5));
        z.appeal(0);
        z.seed(1);
        Check.law(z, "lift 9");
        Check.due("in the air", 4, () -> z.call(0, 2, 2));
        Check.due("16 draws", drawn(16), () -> z.seed(1));
        z.appeal(0);
        Check.law(z, "west 8;drop 9");
        Check.due("blown off", 4, () -> z.call(0, 2, 2));
        Check.due("two draws", drawn(2), () -> z.seed(1));
    }

    private static void callsThatCannotBe() {
        FeatherYard x = Check.yard(COURT);
        Check.index("no case", () -> x.call(2, 0, 0));
        Check.index("no case", () -> x.call(-1, 0, 0));
        Check.index("no bird", () -> x.call(0, 3, 0));
        Check.index("no bird", () -> x.call(0, 0, 3));
        Check.index("no bird", () -> x.call(1, 0, -1));
        Check.state("not present", () -> x.call(1, 0, 1));
        Check.state("not present", () -> x.call(1, 1, 0));
        x.give(0, 1, 2, 1);
        Check.state("no feather", () -> x.call(0, 2, 0));
        Check.due("nothing drawn", 1, () -> x.seed(1));
        Check.due("nothing remembered", 1, () -> x.count(14));
        Check.due("no row", 0, () -> x.count(13));
        x.call(0, 0, 2);
        Check.state("not open", () -> x.call(0, 0, 2));
        Check.index("no bird of one that is not open", () -> x.call(0, 0, 9));
        Check.due("one row", 1, () -> x.count(13));
    }

    private static void hours() {
        FeatherYard x = new FeatherYard();
        Check.due("hour", 12, () -> x.hour(23));
        Check.due("hour", 23, () -> x.hour(0));
        Check.argument("hour", () -> x.hour(24));
        Check.argument("hour", () -> x.hour(-1));
        Check.due("hour", 0, () -> x.count(6));
        Check.due("acts", 2, () -> x.count(14));
        Check.due("the same hour is an act, too", 0, () -> x.hour(0));
        Check.due("acts", 3, () -> x.count(14));
    }

    private static void blows() {
        FeatherYard x = new FeatherYard();
        Check.due("blow", 0, () -> x.blow(0, 3));
        Check.due("blow", 3, () -> x.blow(0, -3));
        Check.due("blow", 0, () -> x.blow(12, 1));
        Check.index("blow", () -> x.blow(13, 9));
        Check.index("blow", () -> x.blow(-1, 0));
        Check.argument("blow", () -> x.blow(0, 4));
        Check.argument("blow", () -> x.blow(0, -4));
        Check.due("wind", -3, () -> x.wind(0));
        Check.due("acts", 3, () -> x.count(14));
    }

    private static void gives() {
        FeatherYard x = Check.yard(COURT);
        Check.due("give", 4, () -> x.give(0, 1, 0, 2));
        Check.due("less", 1, () -> x.stock(0, 0));
        Check.index("give", () -> x.give(2, 0, 0, 1));
        Check.index("give", () -> x.give(0, 2, 0, 1));
        Check.index("give", () -> x.give(0, 0, 3, 1));
        Check.argument("give to itself", () -> x.give(0, 0, 0, 1));
        Check.argument("give none", () -> x.give(0, 1, 0, 0));
        Check.argument("give below none", () -> x.give(0, 1, 0, -1));
        Check.argument("give too many", () -> x.give(0, 1, 0, 2));
        Check.due("all", 5, () -> x.give(0, 1, 0, 1));
        Check.argument("give of none", () -> x.give(0, 1, 0, 1));
        Check.due("acts", 2, () -> x.count(14));
        x.weeks(60);
        Check.due("beyond 99", 99, () -> x.give(1, 0, 2, 50));
        Check.due("gone all the same", 49, () -> x.stock(1, 2));
    }

    private static void appeals() {
        FeatherYard x = Check.yard(COURT);
        Check.index("appeal", () -> x.appeal(2));
        Check.index("appeal", () -> x.appeal(-1));
        Check.state("appeal of an open one", () -> x.appeal(0));
        x.call(0, 0, 2);
        Check.due("appeal", 2, () -> x.appeal(0));
        Check.due("open", 3, () -> x.count(11));
        Check.due("the log keeps its row", 2, () -> x.log(0, 4));
        Check.due("feathers stay away", 2, () -> x.stock(0, 0));
        Check.due("acts", 2, () -> x.count(14));
    }

    private static void weeks() {
        FeatherYard x = Check.yard(COURT);
        Check.due("weeks", 18, () -> x.weeks(3));
        Check.due("moulted", 6, () -> x.stock(0, 0));
        Check.due("no moult", 2, () -> x.stock(0, 1));
        Check.due("moulted twice", 9, () -> x.stock(1, 2));
        Check.due("week", 3, () -> x.count(5));
        Check.argument("weeks", () -> x.weeks(0));
        Check.argument("weeks", () -> x.weeks(61));
        Check.argument("weeks", () -> x.weeks(-1));
        Check.due("one act", 1, () -> x.count(14));
        Check.due("99 at most", 60 + 60 + 92 + 90, () -> x.weeks(60));
        Check.due("99", 99, () -> x.stock(1, 2));
        for (int i = 0; i < 165; i++) {
            x.weeks(60);
        }
        Check.due("week", 63 + 9900, () -> x.count(5));
        Check.due("nothing comes beyond 99", 0, () -> x.weeks(60));
        Check.due("9999 at most", 9999, () -> x.count(5));
        x.give(0, 1, 0, 9);
        Check.due("weeks go on at 9999", 3, () -> x.weeks(3));
        Check.due("9999 at most", 9999, () -> x.count(5));
    }

    private static void led() {
        FeatherYard x = Check.yard(DRAWN, "yard 7 to 7");
        x.call(0, 0, 1);
        x.appeal(0);
        x.seed(1);
        x.call(0, 0, 0);
        x.appeal(0);
        x.seed(1);
        x.call(0, 1, 2);
        Check.due("ends", 2, () -> x.log(0, 4));
        Check.due("rows of 0, once each", 2, () -> x.led(0, false));
        Check.due("of which it has one", 1, () -> x.led(0, true));
        Check.due("rows of 1", 2, () -> x.led(1, false));
        Check.due("of which it has none", 0, () -> x.led(1, true));
        Check.due("rows of 2", 1, () -> x.led(2, false));
        Check.due("as the other one", 1, () -> x.led(2, true));
        Check.index("led", () -> x.led(3, false));
        Check.index("led", () -> x.led(-1, true));
    }

    private static void log() {
        FeatherYard x = Check.yard(DRAWN, "case 1 0 present abc");
        Check.due("none", -1, () -> x.log(0, 0));
        Check.element("another what", () -> x.log(0, 6));
        Check.element("another what", () -> x.log(-1, -1));
        x.weeks(2);
        x.call(1, 2, 0);
        int[] want = {2, 1, 2, 0};
        for (int what = 0; what < want.length; what++) {
            int w = what;
            Check.due("log " + w, want[w], () -> x.log(0, w));
        }
        Check.due("ago -1", -1, () -> x.log(-1, 0));
        Check.due("ago 1", -1, () -> x.log(1, 0));
        for (int i = 0; i < 61; i++) {
            x.weeks(1);
            x.appeal(1);
            x.call(1, 0, 1);
        }
        Check.due("60 rows", 60, () -> x.count(13));
        Check.due("the latest", 63, () -> x.log(0, 0));
        Check.due("the oldest", 4, () -> x.log(59, 0));
        Check.due("none", -1, () -> x.log(60, 0));
        Check.due("undone", 1, x::undo);
        Check.due("60 rows again", 60, () -> x.count(13));
        Check.due("the oldest is there again", 3, () -> x.log(59, 0));
        Check.due("the latest", 62, () -> x.log(0, 0));
        Check.due("led by", 60, () -> x.led(0, false));
    }

    private static void seeds() {
        FeatherYard x = new FeatherYard();
        Check.due("seed", 1, () -> x.seed(-7));
        Check.due("seed", -7, () -> x.seed(Integer.MIN_VALUE));
        Check.due("seed", Integer.MIN_VALUE, () -> x.seed(0));
        Check.due("no act", 0, () -> x.count(14));
    }

    private static void undone() {
        FeatherYard x = Check.yard(DRAWN, "yard 8 to 8");
        x.call(0, 0, 1);
        Check.law(x, "");
        Check.due("a law: none are remembered", 0, x::undo);
        x.appeal(0);
        x.seed(5);
        Check.due("undo", 1, x::undo);
        Check.due("closed again", 2, () -> x.matter(0, 3));
        Check.due("the seed, too", drawn(6), () -> x.seed(1));
        x.hour(3);
        Check.court(x, "");
        Check.due("a text: none are remembered", 0, x::undo);
        x.hour(4);
        Check.court(x, "hour");
        Check.due("not by a wrong one", 1, x::undo);
        Check.due("hour", 3, () -> x.count(6));
        x.hour(4);
        x.feed(1, 2, 3, 4, 5);
        x.undo();
        Check.due("the tape is kept", 1, () -> x.end(20));
        Check.due("all undone", 0, x::undo);
    }

    private static void undoneAll() {
        FeatherYard x = Check.yard(COURT);
        x.call(0, 0, 2);
        x.hour(1);
        x.blow(3, 2);
        x.give(1, 0, 1, 1);
        x.appeal(0);
        x.weeks(7);
        Check.due("six acts", 6, () -> x.count(14));
        x.undo();
        Check.due("weeks of one call are one", 0, () -> x.count(5));
        Check.due("weeks undone", 2, () -> x.stock(0, 0));
        x.undo();
        Check.due("appeal undone", 2, () -> x.matter(0, 3));
        x.undo();
        Check.due("give undone", 2, () -> x.stock(0, 1));
        Check.due("give undone", 1, () -> x.stock(1, 1));
        x.undo();
        Check.due("blow undone", 0, () -> x.wind(3));
        Check.due("ways by the wind of then", 4427, () -> x.ways(1, 0));
        x.undo();
        Check.due("hour undone", 12, () -> x.count(6));
        x.undo();
        Check.due("call undone", 0, () -> x.matter(0, 3));
        Check.due("feather is back", 3, () -> x.stock(0, 0));
        Check.due("no row", 0, () -> x.count(13));
        Check.due("the seed of then", 1, () -> x.seed(1));
        Check.due("none left", 0, () -> x.count(14));
        Check.due("none left", 0, x::undo);
    }

    private static void twelveActs() {
        FeatherYard x = new FeatherYard();
        for (int n = 0; n < 15; n++) {
            x.hour(n);
        }
        Check.due("12 are remembered", 12, () -> x.count(14));
        for (int n = 13; n >= 2; n--) {
            int want = n;
            Check.due("undo", 1, x::undo);
            Check.due("hour", want, () -> x.count(6));
        }
        Check.due("no more", 0, x::undo);
        Check.due("hour", 2, () -> x.count(6));
        x.hour(9);
        x.hour(10);
        x.undo();
        x.hour(11);
        x.undo();
        Check.due("hour", 9, () -> x.count(6));
        Check.due("one more", 1, () -> x.count(14));
        Check.argument("a call that throws", () -> x.hour(99));
        Check.due("is no act", 1, () -> x.count(14));
    }

    private static void images() {
        FeatherYard x = Check.yard(COURT);
        Check.due("none kept", 0, x::back);
        Check.law(x, "drop 1;east 1 if high");
        x.call(0, 0, 2);
        x.weeks(4);
        x.seed(77);
        x.image();
        Check.due("acts stay", 2, () -> x.count(14));
        Check.law(x, "lift 3");
        Check.court(x, "bird falls 1 light 1 songs a moults 1;tower 1 top 1;yard 1 to 1;wind 2 west 2;hour 2");
        x.appeal(0);
        x.call(0, 1, 1);
        x.weeks(9);
        x.seed(5);
        x.feed(0, 0, 0, 0, 0);
        Check.due("back", 1, x::back);
        int[] want = {3, 2, 2, 1, 2, 4, 12, 7, 8, 5, 9, 2, 0, 1, 0};
        for (int what = 0; what < want.length; what++) {
            int w = what;
            Check.due("back: count(" + w + ")", want[w], () -> x.count(w));
        }
        Check.due("the tape is kept", 1, () -> x.end(20));
        Check.due("seed", 77, () -> x.seed(1));
        Check.due("stock", 6, () -> x.stock(0, 0));
        Check.due("the law", 3, () -> x.moves(0, 8, 7, 0, false));
        Check.due("the law", 1, () -> x.moves(0, 8, 7, 0, true));
        Check.due("log", 0, () -> x.log(0, 2));
        Check.due("none to undo", 0, x::undo);
        x.hour(1);
        Check.due("back again", 1, x::back);
        Check.due("back again", 12, () -> x.count(6));
        x.hour(2);
        x.image();
        x.undo();
        Check.due("the image is not undone", 1, x::back);
        Check.due("the image is not undone", 2, () -> x.count(6));
    }
}
