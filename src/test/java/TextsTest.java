/** Promises 1 to 6: a new object, the tape, texts of the court and of the law, and their first wrong byte. */
public final class TextsTest {
    private static final String BIRD = "bird falls 1 light 1 songs a moults 1";

    public static void main(String[] args) {
        newObject();
        tape();
        rightCourts();
        wrongCourts();
        courtLimits();
        twelveTexts();
        nothingStays();
        rightLaws();
        wrongLaws();
        lawLimits();
        faults();
        Check.close("TextsTest");
    }

    private static void newObject() {
        FeatherYard x = new FeatherYard();
        int[] want = {0, 0, 0, 0, -1, 0, 12, 7, 8, 5, 9, 0, 1, 0, 0};
        for (int what = 0; what < want.length; what++) {
            int w = what;
            Check.due("new: count(" + w + ")", want[w], () -> x.count(w));
        }
        Check.due("new: count(-1)", -1, () -> x.count(-1));
        Check.due("new: count(15)", -1, () -> x.count(15));
        Check.due("new: fault", -1, x::fault);
        Check.due("new: undo", 0, x::undo);
        Check.due("new: back", 0, x::back);
        Check.due("new: rich", -1, x::rich);
        Check.due("new: cover", 0, x::cover);
        Check.due("new: alike", 0, x::alike);
        Check.due("new: songs", 1, () -> x.songs(false));
        Check.due("new: ask", -1, x::ask);
        Check.due("new: tell", 0, () -> x.tell(7, 1));
        Check.due("new: seed", 1, () -> x.seed(1));
        for (int level = 0; level <= 12; level++) {
            int l = level;
            Check.due("new: wind", 0, () -> x.wind(l));
        }
        Check.index("new: bird", () -> x.bird(0, 0));
        Check.due("NONE", -1, () -> FeatherYard.NONE);
    }

    private static void tape() {
        FeatherYard x = new FeatherYard();
        for (int i = 1; i <= 20; i++) {
            int n = 20 * i;
            Check.due("feed " + i, n, () -> x.feed(0x20202020, 0x20202020, 0x20202020, 0x20202020, 0x20202020));
        }
        Check.due("feed beyond 400", -1, () -> x.feed(0, 0, 0, 0, 0));
        Check.due("end of all", 1, () -> x.end(400));
        Check.due("end beyond", 0, () -> x.end(401));
        Check.due("end below 0", 0, () -> x.end(-1));
        Check.due("400 blanks", 1, x::court);
        Check.due("used up", 0, () -> x.end(1));
        Check.due("used up, none", 1, () -> x.end(0));
        Check.due("feed again", 20, () -> x.feed(0x686f7572, 0x20330000, 0, 0, 0));
        Check.due("end", 1, () -> x.end(6));
        Check.due("end is shorter", 0, () -> x.end(7));
        Check.due("the highest byte first", 2, x::court);
        Check.due("hour 3", 3, () -> x.count(6));
        x.feed(0, 0, 0, 0, 0);
        x.end(19);
        for (int i = 1; i <= 19; i++) {
            x.feed(0, 0, 0, 0, 0);
        }
        Check.due("feed at 399", -1, () -> x.feed(0, 0, 0, 0, 0));
        Check.due("nothing came", 1, () -> x.end(399));
    }

    private static void rightCourts() {
        Check.rightCourt("");
        Check.rightCourt("     ");
        Check.rightCourt("hour 0");
        Check.rightCourt("  hour   023  ");
        Check.rightCourt("hour23;hour0 ;  hour 7");
        Check.rightCourt("tower 15 top 12;tower0top1");
        Check.rightCourt("yard 15 to 15;yard 0 to 0;yard 0 to 15");
        Check.rightCourt("wind 0 east 3;wind 12 west 3;wind 4 west 0");
        Check.rightCourt("bird falls 4 light 3 songs fedcba moults 5");
        Check.rightCourt("bird falls 000light 0songs f moults 0;counsel9");
        FeatherYard x = Check.yard("bird falls 4 light 3 songs fb moults 5;counsel 7", BIRD + ";counsel 08;case 1 0 present ba",
            "tower 3 top 5;yard 2 to 11;wind 3 west 2;wind 12 east 3;hour 5");
        int[] want = {2, 2, 1, 3, -1, 0, 5, 3, 5, 2, 11, 1, 0};
        for (int what = 0; what < want.length; what++) {
            int w = what;
            Check.due("court: count(" + w + ")", want[w], () -> x.count(w));
        }
        Check.due("falls", 4, () -> x.bird(0, 0));
        Check.due("light", 3, () -> x.bird(0, 1));
        Check.due("songs", 34, () -> x.bird(0, 2));
        Check.due("moults", 5, () -> x.bird(0, 3));
        Check.due("a bird more: a stock of 0", 0, () -> x.stock(0, 1));
        Check.due("stock kept", 7, () -> x.stock(0, 0));
        Check.due("stock by figures", 8, () -> x.stock(1, 1));
        Check.due("present", 3, () -> x.matter(0, 2));
        Check.due("west", -2, () -> x.wind(3));
        Check.due("east", 3, () -> x.wind(12));
    }

    private static void wrongCourts() {
        Check.wrongCourt(";", 0);
        Check.wrongCourt("hour 1;", 7);
        Check.wrongCourt("hour 1;  ", 9);
        Check.wrongCourt("hour 1;;hour 2", 7);
        Check.wrongCourt("hour 1 hour 2", 7);
        Check.wrongCourt("hour 1,", 6);
        Check.wrongCourt("hour", 4);
        Check.wrongCourt("hour  ", 6);
        Check.wrongCourt("hour 24", 5);
        Check.wrongCourt("hour 0001", 5);
        Check.wrongCourt("hour x", 5);
        Check.wrongCourt("hour -1", 5);
        Check.wrongCourt("hour ; x", 5);
        Check.wrongCourt("bird; x", 4);
        Check.wrongCourt("bird falls 1; x", 12);
        Check.wrongCourt("bird falls 1 light 1; x", 20);
        Check.wrongCourt("bird falls 1 light 1 songs a; x", 28);
        Check.wrongCourt("tower; x", 5);
        Check.wrongCourt("tower 1; x", 7);
        Check.wrongCourt("yard; x", 4);
        Check.wrongCourt("yard 1; x", 6);
        Check.wrongCourt("wind; x", 4);
        Check.wrongCourt("wind 1; x", 6);
        Check.wrongCourt("hours 1", 0);
        Check.wrongCourt("Hour 1", 0);
        Check.wrongCourt("hour\t1", 4);
        Check.wrongCourt("  7", 2);
        Check.wrongCourt("\u00ff", 0);
        Check.wrongCourt("bird light 1", 5);
        Check.wrongCourt("bird falls 5", 11);
        Check.wrongCourt("bird falls 1 light 1 songs", 26);
        Check.wrongCourt("bird falls 1 light 1 songs 1", 27);
        Check.wrongCourt("bird falls 1 light 1 songs abg moults 1", 27);
        Check.wrongCourt("bird falls 1 light 1 songs aa moults 1", 27);
        Check.wrongCourt("bird falls 1 light 1 songsa moults 1", 21);
        Check.wrongCourt("bird falls 1 light 1 songs a b moults 1", 29);
        Check.wrongCourt("bird falls 1 light 1 songs a moults", 35);
        Check.wrongCourt("bird falls 1 light 1 songs a moults 6", 36);
        Check.wrongCourt("counsel", 7);
        Check.wrongCourt("counsel 1", 8);
        Check.wrongCourt("counsel ;", 8);
        Check.wrongCourt(BIRD + ";counsel 12", 46);
        Check.wrongCourt(BIRD + ";counsel a", 46);
        Check.wrongCourt(BIRD + ";" + BIRD + ";counsel 1 2", 84);
        Check.wrongCourt(BIRD + ";counsel 1;case 1", 53);
        Check.wrongCourt(BIRD + ";counsel 1;case 0 1", 55);
        Check.wrongCourt(BIRD + ";counsel 1;case 0 0 present a", 55);
        String two = BIRD + ";counsel 1;counsel 1;";
        Check.wrongCourt(two + "case 0 1 present", 74);
        Check.wrongCourt(two + "case; x", 62);
        Check.wrongCourt(two + "case 0; x", 64);
        Check.wrongCourt(two + "case 0 1; x", 66);
        Check.wrongCourt(two + "case 0 1 a", 67);
        Check.wrongCourt(two + "case 1 1 present a", 65);
        Check.wrongCourt(two + "case 0 2 present a", 65);
        Check.wrongCourt(two + "case 0 1 present aa", 75);
        Check.wrongCourt(two + "case 0 1 present ab", 75);
        Check.wrongCourt("tower 16 top 1", 6);
        Check.wrongCourt("tower 1 top 0", 12);
        Check.wrongCourt("tower 1 top 13", 12);
        Check.wrongCourt("tower 1 to 1", 8);
        Check.wrongCourt("yard 16 to 16", 5);
        Check.wrongCourt("yard 5 to 4", 10);
        Check.wrongCourt("yard 5 to 16", 10);
        Check.wrongCourt("yard 5", 6);
        Check.wrongCourt("wind 13 east 1", 5);
        Check.wrongCourt("wind 1 north 1", 7);
        Check.wrongCourt("wind 1 west 4", 12);
        Check.wrongCourt("wind 1", 6);
    }

    private static void courtLimits() {
        StringBuilder b = new StringBuilder("hour 1");
        for (int i = 1; i < 14; i++) {
            b.append(";hour 1");
        }
        Check.rightCourt(b.toString());
        Check.wrongCourt(b + ";hour 1", 98);
        Check.wrongCourt(b + "; crow", 99);
        Check.wrongCourt(b + ";", 98);
        String three = BIRD + ";" + BIRD + ";" + BIRD;
        FeatherYard x = Check.yard(three, three);
        Check.due("a 7th bird", "throws.IllegalArgumentException", () -> Check.court(x, "hour 1; " + BIRD));
        Check.due("a 7th bird: its word", 8, x::fault);
        String four = "counsel 111111;counsel 111111;counsel 111111;counsel 111111";
        Check.due("4 counsel", 3, () -> Check.court(x, four));
        Check.due("a 5th counsel", "throws.IllegalArgumentException", () -> Check.court(x, "counsel 1"));
        Check.due("a 5th counsel: its word", 0, x::fault);
        FeatherYard y = Check.yard(three, four.replace("111111", "111"), "case 0 1 present a;case 0 1 present a;"
            + "case 0 1 present a;case 0 1 present a;case 0 1 present a;case 0 1 present a", "case 3 2 present cb;"
            + "case 0 1 present a;case 0 1 present a;case 0 1 present a;case 0 1 present a;case 0 1 present a");
        Check.due("12 cases", 12, () -> y.count(2));
        Check.due("open cases", 4095, () -> y.count(11));
        Check.due("a 13th case", "throws.IllegalArgumentException", () -> Check.court(y, " case 0 1 present a"));
        Check.due("a 13th case: its word", 1, y::fault);
    }

    private static void twelveTexts() {
        FeatherYard x = new FeatherYard();
        for (int i = 1; i <= 12; i++) {
            int n = i;
            Check.due("text " + i, n, () -> Check.court(x, "hour " + n));
        }
        Check.due("a 13th, wrong", "throws.IllegalArgumentException", () -> Check.court(x, "hour 99"));
        Check.due("its fault", 5, x::fault);
        Check.due("a 13th, right", "throws.UnsupportedOperationException", () -> Check.court(x, "hour 1"));
        Check.due("it was read", -1, x::fault);
        Check.due("the tape is used up", 0, () -> x.end(1));
        Check.due("the hour is kept", 12, () -> x.count(6));
        Check.due("the texts are kept", 12, () -> x.count(3));
        Check.due("a law still", 0, () -> Check.law(x, " "));
    }

    private static void nothingStays() {
        FeatherYard x = Check.yard(BIRD + ";counsel 5");
        x.hour(3);
        Check.argument("wrong", () -> {
            Check.put(x, "yard 1 to 2;tower 1 top 1;hour 9;wind 3 east 1;" + BIRD + ";counsel 11;oops");
            return x.court();
        });
        int[] want = {1, 1, 0, 1, -1, 0, 3, 7, 8, 5, 9, 0, 1, 0, 1};
        for (int what = 0; what < want.length; what++) {
            int w = what;
            Check.due("nothing stays: count(" + w + ")", want[w], () -> x.count(w));
        }
        Check.due("used up", 0, () -> x.end(1));
        Check.due("undo is still there", 1, x::undo);
        Check.law(x, "drop 1;drop 2");
        Check.argument("wrong law", () -> {
            Check.put(x, "drop 3;drop 4;drop 5;drop");
            return x.law();
        });
        Check.due("the law is kept", 2, () -> x.count(4));
        Check.due("the law still holds", 4, () -> x.moves(0, 8, 7, 0, false));
        Check.due("a law in place of it", 1, () -> Check.law(x, "lift 1"));
        Check.due("the new law holds", 0, () -> x.moves(0, 8, 7, 0, false));
    }

    private static void rightLaws() {
        Check.rightLaw("", 0);
        Check.rightLaw("   ", 0);
        Check.rightLaw("drop 0", 1);
        Check.rightLaw("drop9;lift 009;east 1 ;west 2", 4);
        Check.rightLaw("drop 1 if high", 1);
        Check.rightLaw("drop 1 if not over and high or level<3", 1);
        Check.rightLaw("drop 1 if(bird+level+column+light+hour+breath>999)", 1);
        Check.rightLaw("drop 1 if ((((((high))))))", 1);
        Check.rightLaw("drop 1 if not not not not not not high", 1);
        Check.rightLaw("drop 1 if not(not(not(high)))and(over)", 1);
        Check.rightLaw("drop 1 if 1+2<3+4+5", 1);
    }

    private static void wrongLaws() {
        Check.wrongLaw("drop", 4);
        Check.wrongLaw("drop; x", 4);
        Check.wrongLaw("drop 1 if 1 < ; x", 14);
        Check.wrongLaw("drop 10", 5);
        Check.wrongLaw("drop 0001", 5);
        Check.wrongLaw("fall 1", 0);
        Check.wrongLaw("drop 1 when high", 7);
        Check.wrongLaw("drop 1 if", 9);
        Check.wrongLaw("drop 1 if ;", 10);
        Check.wrongLaw("drop 1 if low", 10);
        Check.wrongLaw("drop 1 if high over", 15);
        Check.wrongLaw("drop 1 if highand over", 10);
        Check.wrongLaw("drop 1 if high and", 18);
        Check.wrongLaw("drop 1 if high or ;", 18);
        Check.wrongLaw("drop 1 if high < 1", 15);
        Check.wrongLaw("drop 1 if 1", 11);
        Check.wrongLaw("drop 1 if 1 and high", 12);
        Check.wrongLaw("drop 1 if 1 = 2", 12);
        Check.wrongLaw("drop 1 if 1 < 2 < 3", 16);
        Check.wrongLaw("drop 1 if 1 < high", 14);
        Check.wrongLaw("drop 1 if 1 +", 13);
        Check.wrongLaw("drop 1 if 1 + + 2 < 3", 14);
        Check.wrongLaw("drop 1 if 1000 < 3", 10);
        Check.wrongLaw("drop 1 if (high", 15);
        Check.wrongLaw("drop 1 if (high;", 15);
        Check.wrongLaw("drop 1 if high)", 14);
        Check.wrongLaw("drop 1 if ()", 11);
        Check.wrongLaw("drop 1 if (1 + 2) < 3", 16);
        Check.wrongLaw("drop 1 if (((((( (high)))))))", 17);
        Check.wrongLaw("drop 1 if ((((((not high))))))", 16);
        Check.wrongLaw("drop 1 if not not not not not not not high", 34);
        Check.wrongLaw("drop 1;", 7);
        Check.wrongLaw("drop 1;;", 7);
        Check.wrongLaw("drop 1 if 1 > 2;hour 3", 16);
    }

    private static void lawLimits() {
        StringBuilder b = new StringBuilder("east 1");
        for (int i = 1; i < 12; i++) {
            b.append(";east 1");
        }
        Check.rightLaw(b.toString(), 12);
        Check.wrongLaw(b + "; east 1", 85);
        Check.wrongLaw(b + ";", 84);
        StringBuilder c = new StringBuilder("drop 1 if 0");
        for (int i = 0; i < 193; i++) {
            c.append("+1");
        }
        c.append("<9");
        Check.rightLaw(c.toString(), 1);
        FeatherYard x = Check.yard(BIRD);
        Check.law(x, c.toString());
        Check.due("a long sum", 1, () -> x.moves(0, 8, 7, 0, false));
        Check.law(x, c.toString().replace('<', '>'));
        Check.due("a long sum above", 2, () -> x.moves(0, 8, 7, 0, false));
    }

    private static void faults() {
        FeatherYard x = new FeatherYard();
        Check.court(x, "hour 77");
        Check.due("fault", 5, x::fault);
        x.image();
        Check.due("back", 1, x::back);
        Check.due("going back leaves fault alone", 5, x::fault);
        x.hour(1);
        x.undo();
        Check.due("undone leaves fault alone", 5, x::fault);
        Check.put(x, "\6\0");
        Check.argument("songs", () -> x.songs(true));
        Check.due("songs are no text", 5, x::fault);
        Check.law(x, "drop 1");
        Check.due("a right text", -1, x::fault);
        Check.law(x, "drop");
        Check.due("a wrong law", 4, x::fault);
        Check.court(x, "");
        Check.due("an empty text", -1, x::fault);
    }
}
