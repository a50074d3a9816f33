/** Promises 1 to 6, sentence by sentence: where the tape and texts begin, end, are empty, full or wrong. */
public final class TextEdgesTest {
    private static final String BIRD = "bird falls 1 light 1 songs a moults 1";
    private static final String THREE = BIRD + ";" + BIRD + ";" + BIRD;
    private static final String PAIR = BIRD + ";counsel 1;counsel 1";
    private static final String CASE = "case 0 1 present a";
    private static final String UNSUPPORTED = "throws.UnsupportedOperationException";
    private static final String ARGUMENT = "throws.IllegalArgumentException";

    public static void main(String[] args) {
        newObject();
        newObjectIsEmpty();
        lastCall();
        feed();
        feedFull();
        end();
        courtUsesTheTape();
        courtTwelve();
        courtLines();
        birds();
        birdWords();
        counsel();
        cases();
        casePresent();
        tower();
        yard();
        wind();
        hour();
        digits();
        courtWrong();
        courtNothingStays();
        lawUsesTheTape();
        lawLines();
        lawNumbers();
        lawDepth();
        lawWrong();
        lawNothingStays();
        words();
        blanks();
        emptyTexts();
        moreMustCome();
        lineEndsEarly();
        otherWords();
        tooMany();
        fault();
        Check.allSaid(1, 6);
        Check.close("TextEdgesTest");
    }

    private static String times(String line, int n) {
        return (line + ";").repeat(n - 1) + line;
    }

    private static void newObject() {
        FeatherYard x = new FeatherYard();
        Check.says(1, "`FeatherYard()`: A tower and a yard.");
        Check.says(1, "THE TOWER: a COLUMN (7 at first), its TOP a LEVEL 1 to 12 (8 at first).");
        Check.due("count(7)", 7, () -> x.count(7));
        Check.due("count(8)", 8, () -> x.count(8));
        Check.says(1, "THE YARD: from a COLUMN to another one (5 to 9 at first).");
        Check.due("count(9)", 5, () -> x.count(9));
        Check.due("count(10)", 9, () -> x.count(10));
        Check.says(1, "WIND of each LEVEL: - 3 to 3 (0 at first; below 0: to lesser COLUMNS).");
        for (int l = 0; l <= 12; l++) {
            int level = l;
            Check.due("wind(" + l + ")", 0, () -> x.wind(level));
        }
        Check.says(1, "HOUR 0 to 23 (12 at first).");
        Check.due("count(6)", 12, () -> x.count(6));
        Check.says(1, "WEEK: 0 at first.");
        Check.due("count(5)", 0, () -> x.count(5));
        Check.says(1, "bits 16 to 30 (SEED 1 at first).");
        Check.due("seed(9)", 1, () -> x.seed(9));
    }

    private static void newObjectIsEmpty() {
        FeatherYard x = new FeatherYard();
        Check.says(1, "`FeatherYard()`: A tower and a yard.");
        for (int what : new int[] {0, 1, 2, 3, 11, 13, 14}) {
            Check.due("count(" + what + ")", 0, () -> x.count(what));
        }
        Check.due("the tape is empty", 0, () -> x.end(1));
        Check.due("calm", 1, () -> x.count(12));
        Check.due("no image", 0, x::back);
        Check.due("no act", 0, x::undo);
        Check.due("no row", -1, () -> x.log(0, 0));
        Check.index("no bird", () -> x.bird(0, 0));
        Check.index("no counsel", () -> x.won(0, false));
        Check.index("no case", () -> x.matter(0, 0));
        FeatherYard y = Check.yard(PAIR, CASE);
        y.call(0, 0, 0);
        y.image();
        Check.due("another object is its own", Check.told(new FeatherYard()), () -> Check.told(x));
        Check.due("another object's image is its own", 0, x::back);
    }

    private static void lastCall() {
        Check.says(1, "An object is used for at most 512 calls after it has been made; what later calls answer is free.");
        FeatherYard x = new FeatherYard();
        for (int n = 1; n <= 510; n++) {
            x.hour(n % 24);
        }
        Check.due("the 511th call", 6, () -> x.hour(7));
        Check.due("the 512th call", 1, x::undo);
    }

    private static void feed() {
        FeatherYard x = new FeatherYard();
        Check.says(2, "Twenty bytes come behind the TAPE, of each number the highest first: how many it has;");
        Check.due("feed", 20, () -> x.feed(0x686f7572, 0x20310020, 0x20202020, 0x20202020, 0x20202020));
        Check.due("court", ARGUMENT, x::court);
        Check.due("the third byte of the second number", 6, x::fault);
        Check.due("feed", 20, () -> x.feed(0x686f7572, 0x20323320, 0x20202020, 0x20202020, 0x2020203b));
        Check.due("feed behind", 40, () -> x.feed(0x686f7572, 0x2037ff20, 0x20202020, 0x20202020, 0x20202020));
        Check.due("court", ARGUMENT, x::court);
        Check.due("a byte of 255 in the second feed", 26, x::fault);
        x.feed(0x20202020, 0x20202020, 0x20202020, 0x20202020, 0x686f7572);
        x.feed(0x20313920, 0x20202020, 0x20202020, 0x20202020, 0x20202020);
        Check.due("the last number's bytes, and the next one's", 1, x::court);
        Check.due("hour", 19, () -> x.count(6));
        x.feed(-1, -1, -1, -1, -1);
        Check.due("a number below 0", 1, () -> x.end(20));
        x.end(3);
        Check.due("behind what end left", 23, () -> x.feed(0, 0, 0, 0, 0));
        x.end(0);
        x.feed(0x686f7572, 0x20340000, 0, 0, 0);
        x.end(6);
        Check.due("bytes beyond the end are gone", 26, () -> x.feed(0x20202020, 0x20202020, 0x20202020, 0x20202020, 0x20202020));
        Check.due("court", 2, x::court);
        Check.due("hour", 4, () -> x.count(6));
    }

    private static void feedFull() {
        FeatherYard x = new FeatherYard();
        Check.says(2, "NONE, and none come, if it would have more than 400.");
        for (int n = 20; n <= 400; n += 20) {
            int due = n;
            Check.due("feed", due, () -> x.feed(0, 0, 0, 0, 0));
        }
        Check.due("feed at 400", -1, () -> x.feed(0, 0, 0, 0, 0));
        Check.due("it has 400", 0, () -> x.end(401));
        x.end(381);
        Check.due("feed at 381", -1, () -> x.feed(0, 0, 0, 0, 0));
        Check.due("none come", 0, () -> x.end(382));
        Check.due("none goes", 1, () -> x.end(381));
        x.end(380);
        Check.due("feed at 380", 400, () -> x.feed(0, 0, 0, 0, 0));
        Check.due("all come", 1, () -> x.end(400));
        Check.argument("the tape is used up", x::court);
        Check.due("feed anew", 20, () -> x.feed(0, 0, 0, 0, 0));
        x.end(0);
        String full = " ".repeat(394) + "hour 5";
        Check.put(x, full);
        x.feed(-1, -1, -1, -1, -1);
        Check.due("none come over its bytes", 1, x::court);
        Check.due("400 bytes are read", 5, () -> x.count(6));
    }

    private static void end() {
        FeatherYard x = new FeatherYard();
        Check.says(3, "The TAPE has its first n bytes alone: true;");
        Check.due("none of none", 1, () -> x.end(0));
        x.feed(0x686f7572, 0x20313238, 0, 0, 0);
        Check.due("all", 1, () -> x.end(20));
        Check.due("its first 7", 1, () -> x.end(7));
        Check.due("no 8th is left", 0, () -> x.end(8));
        Check.due("court", 1, x::court);
        Check.due("hour 12, not 128", 12, () -> x.count(6));
        x.feed(0x686f7572, 0x20353320, 0x20202020, 0x20202020, 0x20202020);
        Check.says(3, "false, and nothing happens, if it has fewer, or n is below 0.");
        Check.due("one more than all", 0, () -> x.end(21));
        Check.due("far more", 0, () -> x.end(Integer.MAX_VALUE));
        Check.due("below 0", 0, () -> x.end(-1));
        Check.due("far below 0", 0, () -> x.end(Integer.MIN_VALUE));
        Check.due("all is still there", 1, () -> x.end(20));
        Check.due("hour 53 is still there", ARGUMENT, x::court);
        Check.due("its fault", 5, x::fault);
        Check.says(3, "The TAPE has its first n bytes alone: true;");
        x.feed(0x39393939, 0, 0, 0, 0);
        Check.due("none", 1, () -> x.end(0));
        Check.due("an empty text", 2, x::court);
    }

    private static void courtUsesTheTape() {
        FeatherYard x = new FeatherYard();
        Check.says(4, "`int court() throws IllegalArgumentException, UnsupportedOperationException`: Uses the TAPE up:"
            + " a text of THE COURT: how many there are.");
        Check.put(x, "hour 3");
        Check.due("the first text", 1, x::court);
        Check.due("used up", 0, () -> x.end(1));
        Check.put(x, "hour 4");
        Check.due("the second text", 2, x::court);
        Check.says(4, "a call that throws changes nothing but the TAPE, where it is used up.");
        Check.put(x, "hour 24");
        Check.argument("court", x::court);
        Check.due("used up", 0, () -> x.end(1));
        Check.due("an empty text is no wrong one", 3, x::court);
    }

    private static void courtTwelve() {
        FeatherYard x = new FeatherYard();
        Check.says(4, "THE COURT is told in texts (at most 12, one behind another): LINE { ; LINE }");
        for (int n = 1; n <= 11; n++) {
            int due = n;
            Check.due("text " + n, due, () -> Check.court(x, "hour " + due));
        }
        Check.due("a wrong text", ARGUMENT, () -> Check.court(x, "hour 24"));
        Check.due("is none of the 12", 12, () -> Check.court(x, "hour 20"));
        x.hour(21);
        String before = Check.told(x);
        Check.says(4, "UnsupportedOperationException: there are 12.");
        Check.due("a 13th", UNSUPPORTED, () -> Check.court(x, "hour 22;" + BIRD));
        Check.due("used up", 0, () -> x.end(1));
        Check.due("an empty 13th", UNSUPPORTED, () -> Check.court(x, ""));
        Check.due("changes nothing", before, () -> Check.told(x));
        Check.says(4, "Of several exceptions the one told first is thrown;");
        Check.due("a wrong 13th", ARGUMENT, () -> Check.court(x, "hour 24"));
        Check.due("its fault", 5, x::fault);
        Check.due("changes nothing", before, () -> Check.told(x));
        Check.says(4, "THE LAW (a text, in place of the one before): LINE { ; LINE }");
        Check.due("a law is none of the 12", 1, () -> Check.law(x, "drop 1"));
        Check.due("12 texts", 12, () -> x.count(3));
    }

    private static void courtLines() {
        Check.says(4, "LINE { ; LINE }, at most 14: bird falls N light N songs S moults N");
        Check.rightCourt("hour 1");
        FeatherYard x = Check.rightCourt(times("hour 1", 13) + ";hour 2");
        Check.due("the 14th line counts", 2, () -> x.count(6));
        Check.wrongCourt(times("hour 1", 14) + ";hour 2", 98);
        Check.wrongCourt(times("hour 1", 15) + ";hour 2", 98);
        Check.rightCourt(times("hour 1", 14), times("hour 1", 14));
    }

    private static void birds() {
        Check.says(4, "BIRDS (at most 6, numbered from 0 on): FALLS 0 to 4, LIGHT 0 to 3, SONGS a to f, as bits, MOULTS 0 to 5.");
        FeatherYard x = Check.rightCourt("bird falls 0 light 0 songs a moults 0;bird falls 4 light 3 songs f moults 5");
        int[][] want = {{0, 0, 1, 0}, {4, 3, 32, 5}};
        for (int w = 0; w < 4; w++) {
            int what = w;
            Check.due("the least of " + w, want[0][w], () -> x.bird(0, what));
            Check.due("the most of " + w, want[1][w], () -> x.bird(1, what));
        }
        Check.wrongCourt("bird falls 5 light 1 songs a moults 1", 11);
        Check.wrongCourt("bird falls 1 light 4 songs a moults 1", 19);
        Check.wrongCourt("bird falls 1 light 1 songs a moults 6", 36);
        FeatherYard y = Check.rightCourt(THREE, THREE);
        Check.due("6 birds", 6, () -> y.count(0));
        Check.wrongCourt(BIRD, 0, THREE, THREE);
        Check.wrongCourt(times(BIRD, 2), 38, THREE, BIRD + ";" + BIRD);
        Check.says(4, "A BIRD more: a STOCK of 0 of it for all.");
        FeatherYard z = Check.rightCourt(BIRD, PAIR);
        Check.due("of the first one", 0, () -> z.stock(0, 1));
        Check.due("of the second one", 0, () -> z.stock(1, 1));
        Check.due("of the bird before", 1, () -> z.stock(1, 0));
        FeatherYard v = Check.yard(PAIR);
        v.image();
        Check.tellCourt(v, BIRD);
        v.weeks(9);
        v.back();
        Check.tellCourt(v, BIRD);
        Check.due("not as many as one that is gone had", 0, () -> v.stock(0, 1));
    }

    private static void birdWords() {
        String begin = "bird falls 1 light 1 songs ";
        Check.says(4, "(S: a word of letters a to f, none twice;");
        FeatherYard x = Check.rightCourt(begin + "fdbeca moults 1");
        Check.due("all six", 63, () -> x.bird(0, 2));
        Check.wrongCourt(begin + "abcdefa moults 1", 27);
        Check.wrongCourt(begin + "ff moults 1", 27);
        Check.wrongCourt(begin + "g moults 1", 27);
        Check.wrongCourt(begin + "abcdeg moults 1", 27);
        Check.wrongCourt(begin + "z moults 1", 27);
        Check.wrongCourt(begin + "moults 1", 27);
        Check.wrongCourt(begin + "A moults 1", 27);
        Check.wrongCourt(begin + "1 moults 1", 27);
        Check.wrongCourt(begin + "a b moults 1", 29);
        Check.wrongCourt(begin + "; moults 1", 27);
    }

    private static void counsel() {
        Check.says(4, "F: as many figures as there are BIRDS by then (at least one), the STOCK of each;");
        FeatherYard x = Check.rightCourt("counsel 0;counsel 9", BIRD);
        Check.due("0", 0, () -> x.stock(0, 0));
        Check.due("9", 9, () -> x.stock(1, 0));
        FeatherYard y = Check.rightCourt("counsel 901234", THREE, THREE);
        int[] want = {9, 0, 1, 2, 3, 4};
        for (int b = 0; b < 6; b++) {
            int bird = b;
            Check.due("figure " + b, want[b], () -> y.stock(0, bird));
        }
        Check.wrongCourt("counsel 1", 8);
        Check.wrongCourt("counsel", 7);
        Check.wrongCourt("counsel 10", 8, BIRD);
        Check.wrongCourt("counsel ;", 8, BIRD);
        Check.wrongCourt("counsel a", 8, BIRD);
        Check.wrongCourt("counsel 11", 8, THREE);
        Check.wrongCourt("counsel 1111", 8, THREE);
        Check.wrongCourt("counsel 11 1", 8, THREE);
        Check.wrongCourt("counsel 11111", 8, THREE, THREE);
        Check.wrongCourt("counsel 1111111", 8, THREE, THREE);
        Check.wrongCourt("counsel 1;" + BIRD, 8);
        Check.rightCourt(BIRD + ";counsel 1;" + BIRD + ";counsel 11");
        Check.says(4, "COUNSEL (at most 4, numbered from 0 on): a STOCK of feathers of each BIRD, 0 to 99.");
        FeatherYard z = Check.rightCourt(times("counsel 1", 4), BIRD);
        Check.due("4 counsel", 4, () -> z.count(1));
        Check.wrongCourt("counsel 1", 0, BIRD, times("counsel 1", 4));
        Check.wrongCourt(times("counsel 1", 5), 40, BIRD);
    }

    private static void cases() {
        Check.says(4, "C: a COUNSEL that there is by then, the second not the first one, else it is wrong;");
        String four = times("counsel 1", 4);
        FeatherYard x = Check.rightCourt("case 3 0 present a;case 000 003 present a", BIRD, four);
        Check.due("the last one", 3, () -> x.matter(0, 0));
        Check.due("the first one", 0, () -> x.matter(0, 1));
        Check.wrongCourt("case 4 0 present a", 5, BIRD, four);
        Check.wrongCourt("case 0 4 present a", 7, BIRD, four);
        Check.wrongCourt("case 0 0 present a", 7, BIRD, four);
        Check.wrongCourt("case 3 3 present a", 7, BIRD, four);
        Check.wrongCourt("case 1 001 present a", 7, BIRD, four);
        Check.wrongCourt("case 0 1 present a", 5);
        Check.wrongCourt("case 0 1 present a", 5, BIRD);
        Check.wrongCourt("case 0 1 present a", 7, BIRD + ";counsel 1");
        Check.wrongCourt("case 0 1 present a;counsel 1", 7, BIRD + ";counsel 1");
        Check.rightCourt("counsel 1;case 0 1 present a", BIRD + ";counsel 1");
        Check.says(4, "CASES (at most 12, numbered from 0 on): two COUNSEL (unlike), PRESENT: BIRDS, as bits;");
        FeatherYard y = Check.rightCourt(times(CASE, 12), PAIR);
        Check.due("12 cases", 12, () -> y.count(2));
        Check.due("the 12th", 1, () -> y.matter(11, 2));
        Check.wrongCourt(CASE, 0, PAIR, times(CASE, 12));
        Check.wrongCourt(times(CASE, 13), 228, PAIR);
    }

    private static void casePresent() {
        Check.says(4, "B: a word of letters a to f, none twice: BIRDS that there are by then;");
        String pair = ";counsel 111;counsel 111";
        FeatherYard x = Check.rightCourt("case 0 1 present cab;case 0 1 present c", THREE + pair);
        Check.due("all", 7, () -> x.matter(0, 2));
        Check.due("the last", 4, () -> x.matter(1, 2));
        Check.wrongCourt("case 0 1 present d", 17, THREE + pair);
        Check.wrongCourt("case 0 1 present abcd", 17, THREE + pair);
        Check.wrongCourt("case 0 1 present aa", 17, THREE + pair);
        Check.wrongCourt("case 0 1 present abca", 17, THREE + pair);
        Check.wrongCourt("case 0 1 present 1", 17, THREE + pair);
        Check.wrongCourt("case 0 1 present;", 16, THREE + pair);
        Check.wrongCourt("case 0 1 present d;" + BIRD, 17, THREE + pair);
        Check.rightCourt(BIRD + ";case 0 1 present d", THREE + pair);
        String six = times("counsel 111111", 2);
        FeatherYard y = Check.rightCourt("case 0 1 present fedcba", THREE, THREE, six);
        Check.due("all six", 63, () -> y.matter(0, 2));
        Check.wrongCourt("case 0 1 present g", 17, THREE, THREE, six);
    }

    private static void tower() {
        Check.says(4, "THE TOWER: a COLUMN (7 at first), its TOP a LEVEL 1 to 12 (8 at first).");
        FeatherYard x = Check.rightCourt("tower 0 top 1");
        Check.due("the least column", 0, () -> x.count(7));
        Check.due("the least top", 1, () -> x.count(8));
        FeatherYard y = Check.rightCourt("tower 15 top 12");
        Check.due("the most column", 15, () -> y.count(7));
        Check.due("the most top", 12, () -> y.count(8));
        Check.wrongCourt("tower 16 top 1", 6);
        Check.wrongCourt("tower 1 top 0", 12);
        Check.wrongCourt("tower 1 top 13", 12);
        Check.wrongCourt("tower -1 top 1", 6);
    }

    private static void yard() {
        Check.says(4, "yard: the second not below the first;");
        FeatherYard x = Check.rightCourt("yard 0 to 15");
        Check.due("from", 0, () -> x.count(9));
        Check.due("to", 15, () -> x.count(10));
        FeatherYard y = Check.rightCourt("yard 15 to 15");
        Check.due("one column", 15, () -> y.count(9));
        Check.rightCourt("yard 0 to 0");
        Check.rightCourt("yard 6 to 6");
        Check.wrongCourt("yard 6 to 5", 10);
        Check.wrongCourt("yard 15 to 14", 11);
        Check.wrongCourt("yard 1 to 0", 10);
        Check.says(4, "LEVELS 0 (the ground) to 12, COLUMNS 0 to 15.");
        Check.wrongCourt("yard 16 to 16", 5);
        Check.wrongCourt("yard 15 to 16", 11);
    }

    private static void wind() {
        Check.says(4, "wind: a LEVEL, and behind east or west 0 to 3: west is below 0.");
        FeatherYard x = Check.rightCourt("wind 0 east 3;wind 12 west 3;wind 1 west 0;wind 2 east 0;wind 3 west 1;wind 4 east 1");
        int[] want = {3, 0, 0, -1, 1};
        for (int l = 0; l < 5; l++) {
            int level = l;
            Check.due("level " + l, want[l], () -> x.wind(level));
        }
        Check.due("level 12", -3, () -> x.wind(12));
        Check.wrongCourt("wind 13 east 1", 5);
        Check.wrongCourt("wind 1 east 4", 12);
        Check.wrongCourt("wind 1 west 4", 12);
        Check.wrongCourt("wind 1 east -1", 12);
        Check.wrongCourt("wind 1 1", 7);
        Check.wrongCourt("wind 1 to 1", 7);
        FeatherYard y = Check.rightCourt("wind 5 west 2;wind 5 east 1");
        Check.due("the later line", 1, () -> y.wind(5));
    }

    private static void hour() {
        Check.says(4, "HOUR 0 to 23 (12 at first).");
        FeatherYard x = Check.rightCourt("hour 0");
        Check.due("the least", 0, () -> x.count(6));
        FeatherYard y = Check.rightCourt("hour 23");
        Check.due("the most", 23, () -> y.count(6));
        Check.wrongCourt("hour 24", 5);
        Check.wrongCourt("hour 999", 5);
    }

    private static void digits() {
        Check.says(4, "Numbers are of 1 to 3 digits.");
        FeatherYard x = Check.rightCourt("hour 009");
        Check.due("three digits", 9, () -> x.count(6));
        FeatherYard y = Check.rightCourt("hour 05");
        Check.due("two digits", 5, () -> y.count(6));
        Check.wrongCourt("hour 0000", 5);
        Check.wrongCourt("hour 0012", 5);
        Check.wrongCourt("hour 99999999999999999999", 5);
        Check.wrongCourt("hour 4294967297", 5);
        Check.wrongCourt("tower 0001 top 1", 6);
        Check.wrongCourt("tower 1 top 0001", 12);
        Check.wrongCourt("case 0000 1 present a", 5, PAIR);
        Check.wrongCourt("bird falls 0001", 11);
    }

    private static void courtWrong() {
        Check.says(4, "IllegalArgumentException: it is wrong;");
        Check.wrongCourt("hour 1;crow", 7);
        Check.wrongCourt("hour 1 ; ; hour 2", 9);
        Check.wrongCourt(";hour 1", 0);
        Check.wrongCourt("drop 1", 0);
        Check.wrongCourt("1", 0);
        Check.wrongCourt("bird 1", 5);
        Check.wrongCourt("hour 1 2", 7);
        Check.wrongCourt("hour 1 if high", 7);
        Check.wrongCourt("yard 1 to 2 to 3", 12);
        Check.wrongCourt("bird falls 1 light 1 moults 1", 21);
        Check.wrongCourt("bird light 1", 5);
        Check.wrongCourt("case 0 1 a", 9, PAIR);
    }

    private static void courtNothingStays() {
        Check.says(4, "Of a wrong text nothing stays.");
        FeatherYard x = Check.yard(PAIR, CASE + ";wind 3 east 2");
        Check.layDown(x, "drop 1");
        x.call(0, 0, 0);
        x.weeks(1);
        String before = Check.told(x);
        String[] lines = {"tower 1 top 1", "yard 1 to 2", "wind 3 west 3", "hour 3", BIRD, "counsel 7",
            "case 1 0 present a", BIRD + ";counsel 77;case 0 2 present ab;hour 1", "bird falls 4", "tower 1", "yard 1 to"};
        for (String line : lines) {
            Check.due(line, ARGUMENT, () -> Check.court(x, line + ";x"));
            Check.due("nothing of " + line, before, () -> Check.told(x));
        }
        Check.due("nor in the next text", 3, () -> Check.court(x, ""));
        Check.due("count(0)", 1, () -> x.count(0));
        Check.due("count(8)", 8, () -> x.count(8));
    }

    private static void lawUsesTheTape() {
        FeatherYard x = Check.yard(BIRD);
        Check.says(5, "`int law() throws IllegalArgumentException`: Uses the TAPE up: THE LAW: how many LINES.");
        Check.put(x, "drop 1;drop 2");
        Check.due("two lines", 2, x::law);
        Check.due("used up", 0, () -> x.end(1));
        Check.says(5, "THE LAW (a text, in place of the one before)");
        Check.due("drop 3", 4, () -> x.moves(0, 8, 7, 0, false));
        Check.due("one line", 1, () -> Check.law(x, "east 2"));
        Check.due("no drop", 1, () -> x.moves(0, 8, 7, 0, false));
        Check.due("no line", 0, () -> Check.law(x, ""));
        Check.due("no east", 0, () -> x.moves(0, 8, 7, 0, true));
        Check.says(5, "a call that throws changes nothing but the TAPE, where it is used up.");
        Check.put(x, "fall 1");
        Check.argument("law", x::law);
        Check.due("used up", 0, () -> x.end(1));
    }

    private static void lawLines() {
        Check.says(5, "LINE { ; LINE }, at most 12: drop N [ if C ] | lift N [ if C ] | east N [ if C ] | west N [ if C ].");
        Check.rightLaw("west 1", 1);
        Check.rightLaw(times("west 1", 12), 12);
        Check.wrongLaw(times("west 1", 13), 84);
        Check.wrongLaw(times("west 1", 12) + "; crow", 85);
        FeatherYard x = Check.yard(BIRD);
        Check.layDown(x, times("west 1", 11) + ";west 9");
        Check.due("the 12th counts", -20, () -> x.moves(0, 8, 7, 0, true));
        String wide = "drop 1 if 0" + "+0".repeat(193) + "<1";
        Check.rightLaw(wide + " ", 1);
        String dense = "drop 1 if " + "1<2 and ".repeat(48) + "1<2";
        Check.layDown(x, dense);
        Check.due("a text of 397 bytes", 2, () -> x.moves(0, 8, 7, 0, false));
        String ors = "drop 1 if " + "1<0or ".repeat(64) + "0<1";
        Check.layDown(x, ors);
        Check.due("the last of many", 2, () -> x.moves(0, 8, 7, 0, false));
    }

    private static void lawNumbers() {
        Check.says(5, "All numbers are of 1 to 3 digits (N 0 to 9).");
        FeatherYard x = Check.yard(BIRD);
        Check.layDown(x, "east 0");
        Check.due("the least", 0, () -> x.moves(0, 8, 7, 0, true));
        Check.layDown(x, "east 9");
        Check.due("the most", 9, () -> x.moves(0, 8, 7, 0, true));
        Check.layDown(x, "east 007");
        Check.due("three digits", 7, () -> x.moves(0, 8, 7, 0, true));
        Check.wrongLaw("east 10", 5);
        Check.wrongLaw("east 010", 5);
        Check.wrongLaw("east 0009", 5);
        Check.wrongLaw("east -1", 5);
        Check.layDown(x, "east 1 if 998 < 999;east 2 if 000 < 001;east 4 if 999 + 999 > 999");
        Check.due("the numbers of a sum", 7, () -> x.moves(0, 8, 7, 0, true));
        Check.wrongLaw("east 1 if 1000 > 1", 10);
        Check.wrongLaw("east 1 if 0001 > 1", 10);
        Check.wrongLaw("east 1 if 1 > 1000", 14);
        Check.wrongLaw("east 1 if 1 + 1000 > 1", 14);
        Check.wrongLaw("east 1 if 4294967297 > 1", 10);
    }

    private static void lawDepth() {
        Check.says(5, "( and not within one another at most 6 deep.");
        Check.rightLaw("drop 1 if ((((((high))))))", 1);
        Check.rightLaw("drop 1 if not not not not not not high", 1);
        Check.rightLaw("drop 1 if not(not(not(1<2)))", 1);
        Check.rightLaw("drop 1 if (not(not(not 1<2)))", 1);
        Check.rightLaw("drop 1 if ((((((high)))))) and ((((((high)))))) or not not not not not not over", 1);
        Check.rightLaw("drop 1 if ((((((high and over or high))))));drop 1 if ((((((high))))))", 2);
        Check.rightLaw("drop 1 if (((((not high and not over) and not high))))", 1);
        Check.rightLaw("drop 1 if " + "not high and ".repeat(7) + "not high", 1);
        Check.rightLaw("drop 1 if " + "(high)or".repeat(7) + "(high)", 1);
        Check.says(5, "the ( or not that is a 7th one deep;");
        Check.wrongLaw("drop 1 if (((((((high)))))))", 16);
        Check.wrongLaw("drop 1 if not not not not not not not high", 34);
        Check.wrongLaw("drop 1 if not(not(not(not high)))", 22);
        Check.wrongLaw("drop 1 if (not(not(not(high))))", 22);
        Check.wrongLaw("drop 1 if ((((((high and not over))))))", 25);
        Check.wrongLaw("drop 1 if ((((((high or (over)))))))", 24);
        Check.wrongLaw("drop 1 if ((((((1<2)))))) and (((((((1<2)))))))", 36);
        Check.wrongLaw("drop 1 if ((((((((((", 16);
    }

    private static void lawWrong() {
        Check.says(5, "IllegalArgumentException: the text is wrong.");
        Check.wrongLaw("hour 1", 0);
        Check.wrongLaw("drop 1 drop 1", 7);
        Check.wrongLaw("drop 1 if high if over", 15);
        Check.wrongLaw("drop 1 and high", 7);
        Check.wrongLaw("drop if high", 5);
        Check.wrongLaw("drop 1 if high)", 14);
        Check.wrongLaw("drop 1 if ((high)", 17);
        Check.wrongLaw("drop 1 if not", 13);
        Check.wrongLaw("drop 1 if not;", 13);
        Check.wrongLaw("drop 1 if and high", 10);
        Check.wrongLaw("drop 1 if high or and over", 18);
        Check.wrongLaw("drop 1 if falls > 1", 10);
        Check.wrongLaw("drop 1 if level > falls", 18);
        Check.wrongLaw("drop 1 if level >< 3", 17);
        Check.wrongLaw("drop 1 if level = 3", 16);
        Check.wrongLaw("drop 1 if level - 3 < 1", 16);
        Check.wrongLaw("drop 1 if 1 < 2 > 3", 16);
        Check.wrongLaw("drop 1 if (1) < 2", 12);
        Check.wrongLaw("drop 1 if over + 1 < 2", 15);
        Check.wrongLaw("drop 1 if 1 + over < 2", 14);
        Check.wrongLaw("drop 1 if 1 < (2)", 14);
        Check.wrongLaw("drop 1 if + 1 < 2", 10);
    }

    private static void lawNothingStays() {
        Check.says(5, "Of a wrong text nothing stays.");
        FeatherYard x = Check.yard(PAIR);
        String[] wrong = {"drop 7;x", "drop 7 if", "east 7;west 2;drop 10", "lift 9 if (high", times("drop 1", 13)};
        for (String text : wrong) {
            Check.due(text, ARGUMENT, () -> Check.law(x, text));
            Check.due("still no law", -1, () -> x.count(4));
            Check.due("it sinks by FALLS", 1, () -> x.moves(0, 8, 7, 0, false));
        }
        Check.layDown(x, "drop 2 if level > 7;east 1");
        x.weeks(1);
        String before = Check.told(x);
        for (String text : wrong) {
            Check.due(text, ARGUMENT, () -> Check.law(x, text));
            Check.due("the law before", before, () -> Check.told(x));
            Check.due("its condition", 1, () -> x.moves(0, 7, 7, 0, false));
        }
        Check.due("the act can still be undone", 1, x::undo);
    }

    private static void words() {
        Check.says(4, "Words are as long as a to z go on;");
        Check.rightCourt("hour7;tower1top2");
        Check.wrongCourt("hourz 7", 0);
        Check.wrongCourt("houra 7", 0);
        Check.wrongCourt("hou 7", 0);
        Check.wrongCourt("h our 7", 0);
        Check.wrongCourt("ho", 0);
        Check.wrongCourt("hour{7", 4);
        Check.wrongCourt("hour`7", 4);
        Check.wrongCourt("hourA7", 4);
        Check.wrongCourt("HOUR 7", 0);
        Check.wrongCourt("hour 7/", 6);
        Check.wrongCourt("hour 7:", 6);
        Check.wrongCourt("hour /7", 5);
        Check.wrongCourt("hour :7", 5);
        Check.wrongCourt("hour 7hour 8", 6);
        Check.says(5, "Words are as long as a to z go on;");
        Check.rightLaw("drop1if1<2and2>1or high", 1);
        Check.wrongLaw("drop 1 if highor over", 10);
        Check.wrongLaw("drop 1 ifhigh", 7);
        Check.wrongLaw("drop 1 if nothigh", 10);
    }

    private static void blanks() {
        Check.says(4, "between all there may be blanks (32), also ahead and behind.");
        Check.rightCourt("   hour   7   ;   hour   8   ");
        Check.rightCourt("hour 7" + " ".repeat(394));
        Check.rightCourt(" ".repeat(394) + "hour 7");
        for (char c : new char[] {0, 9, 10, 13, 31, 33, 127, 128, 160, 255}) {
            Check.wrongCourt("hour" + c + "7", 4);
            Check.wrongCourt(c + "hour 7", 0);
            Check.wrongCourt("hour 7" + c, 6);
            Check.wrongCourt("hour 7 " + c, 7);
        }
        Check.wrongCourt("hour 1 2", 7);
        Check.says(5, "between all there may be blanks (32), also ahead and behind.");
        Check.rightLaw("  drop  1  if  not  (  level  +  1  <  2  )  ;  lift  1  ", 2);
        Check.wrongLaw("drop\n1", 4);
        Check.wrongLaw("drop 1 if level\t< 1", 15);
        Check.wrongLaw("drop 1 \0", 7);
    }

    private static void emptyTexts() {
        Check.says(4, "A text that is empty, or blanks alone, has no LINE.");
        Check.rightCourt("");
        Check.rightCourt(" ");
        Check.rightCourt(" ".repeat(400));
        FeatherYard x = Check.yard(PAIR);
        x.hour(3);
        Check.due("it is a text", 2, () -> Check.court(x, ""));
        Check.due("behind which no act is remembered", 0, x::undo);
        Check.says(5, "A text that is empty, or blanks alone, has no LINE.");
        Check.rightLaw("", 0);
        Check.rightLaw(" ", 0);
        Check.rightLaw(" ".repeat(400), 0);
        Check.due("LINES of none", -1, () -> x.count(4));
        Check.layDown(x, "");
        Check.due("LINES of an empty one", 0, () -> x.count(4));
    }

    private static void moreMustCome() {
        Check.says(6, "or the text's length, if more must come.");
        String court = "bird falls 1 light 1 songs a moults ";
        int[] ends = {4, 10, 12, 18, 20, 26, 28, 35};
        for (int n : ends) {
            Check.wrongCourt(court.substring(0, n), n);
        }
        Check.wrongCourt("hour   ", 7);
        Check.wrongCourt("hour 1;", 7);
        Check.wrongCourt("hour 1;   ", 10);
        Check.wrongCourt("tower", 5);
        Check.wrongCourt("tower 1 ", 8);
        Check.wrongCourt("tower 1 top", 11);
        Check.wrongCourt("yard", 4);
        Check.wrongCourt("yard 1", 6);
        Check.wrongCourt("yard 1 to", 9);
        Check.wrongCourt("wind", 4);
        Check.wrongCourt("wind 1", 6);
        Check.wrongCourt("wind 1 west", 11);
        Check.wrongCourt("counsel", 7, BIRD);
        Check.wrongCourt("case", 4, PAIR);
        Check.wrongCourt("case 0", 6, PAIR);
        Check.wrongCourt("case 0 1", 8, PAIR);
        Check.wrongCourt("case 0 1 present", 16, PAIR);
        Check.wrongCourt(" ".repeat(396) + "hour", 400);
        Check.wrongLaw("drop", 4);
        Check.wrongLaw("drop 1 if", 9);
        Check.wrongLaw("drop 1 if  ", 11);
        Check.wrongLaw("drop 1 if (", 11);
        Check.wrongLaw("drop 1 if level", 15);
        Check.wrongLaw("drop 1 if level <", 17);
        Check.wrongLaw("drop 1 if level < 1 +", 21);
        Check.wrongLaw("drop 1 if high or", 17);
        Check.wrongLaw("drop 1 if (high", 15);
        Check.wrongLaw("drop 1;", 7);
        Check.wrongLaw(" ".repeat(393) + "lift 1;", 400);
    }

    private static final String[] COURT_LINES = {"bird falls 1 light 1 songs a moults 1", "counsel 1", "case 0 1 present a",
        "tower 1 top 1", "yard 1 to 2", "wind 1 east 1", "wind 1 west 1", "hour 1"};
    private static final String[] LAW_LINES = {"drop 1", "lift 1", "east 1", "west 1", "drop 1 if high", "drop 1 if over",
        "drop 1 if not high and over or high", "drop 1 if bird + level < column + light", "drop 1 if hour > breath",
        "drop 1 if ( high )", "drop 1 if 1 < 1 + 1"};

    /** What of these lines of the law is a line, too. */
    private static final String LAW_LINE = "drop 1( if ((not )?high( and over)?|bird \\+ level < column|1 < 1))?";

    private static void wrong(boolean law, String text, int at) {
        if (law) {
            Check.wrongLaw(text, at);
        } else {
            Check.wrongCourt(text, at, PAIR);
        }
    }

    /** Where a thing more must come, the ; that comes instead is wrong, and nothing behind it is looked at. */
    private static void lineEndsEarly() {
        Check.says(6, "The first wrong byte: the begin of the first thing that cannot stand there");
        for (String[] lines : new String[][] {COURT_LINES, LAW_LINES}) {
            boolean law = lines == LAW_LINES;
            for (String line : lines) {
                String[] things = line.split(" ");
                String begun = "";
                for (String thing : things) {
                    begun += (begun.isEmpty() ? "" : " ") + thing;
                    boolean done = begun.equals(line) || law && begun.matches(LAW_LINE);
                    int at = begun.length();
                    wrong(law, begun + ";crow", done ? at + 1 : at);
                    wrong(law, begun + " ; crow", done ? at + 3 : at + 1);
                    wrong(law, begun + "#;crow", at);
                }
            }
        }
    }

    /** Each word with another letter, a letter less or a letter more is none. */
    private static void otherWords() {
        Check.says(6, "a word that is none;");
        for (String[] lines : new String[][] {COURT_LINES, LAW_LINES}) {
            boolean law = lines == LAW_LINES;
            for (String line : lines) {
                int at = 0;
                for (String thing : line.split(" ")) {
                    if (thing.length() > 1) {
                        String ahead = line.substring(0, at);
                        String behind = line.substring(at + thing.length());
                        int last = thing.length() - 1;
                        for (int i = 0; i <= last; i++) {
                            wrong(law, ahead + thing.substring(0, i) + "z" + thing.substring(i + 1) + behind, at);
                        }
                        wrong(law, ahead + thing.substring(0, last) + behind, at);
                        wrong(law, ahead + thing.substring(1) + behind, at);
                        wrong(law, ahead + thing + thing.charAt(last) + behind, at);
                        wrong(law, ahead + "a" + thing + behind, at);
                        wrong(law, ahead + thing.substring(0, 1).toUpperCase() + thing.substring(1) + behind, at);
                    }
                    at += thing.length() + 1;
                }
            }
        }
    }

    private static void tooMany() {
        Check.says(6, "of a LINE, a BIRD, a COUNSEL, a CASE too many, the first word)");
        Check.wrongCourt(times("hour 1", 14) + " ;  hour 24", 101);
        Check.wrongCourt(times("hour 1", 14) + ";hour", 98);
        Check.wrongLaw(times("lift 1", 12) + " ;  lift 10", 87);
        Check.wrongCourt(" bird falls 9", 1, THREE, THREE);
        Check.wrongCourt("bird", 0, THREE, THREE);
        Check.wrongCourt(" counsel x", 1, BIRD, times("counsel 1", 4));
        Check.wrongCourt("counsel", 0, BIRD, times("counsel 1", 4));
        Check.wrongCourt(" case 9 9", 1, PAIR, times(CASE, 12));
        Check.wrongCourt("case", 0, PAIR, times(CASE, 12));
        Check.says(6, "The first wrong byte: the begin of the first thing that cannot stand there (a number of more digits, or out of"
            + " its bounds, or that tells none that can be; figures, letters that are none such; a word that is none;");
        Check.wrongCourt("hour 1;hour 0007", 12);
        Check.wrongLaw("drop 1;drop 0007", 12);
        Check.wrongCourt("hour 1;hour  24", 13);
        Check.wrongLaw("drop 1;drop  10", 13);
        Check.wrongCourt("case 1 2 present a", 7, PAIR);
        Check.wrongCourt("case 2 1 present a", 5, PAIR);
        Check.wrongCourt("case 1  1 present a", 8, PAIR);
        Check.wrongCourt("counsel  12", 9, PAIR);
        Check.wrongCourt("bird falls 1 light 1 songs  abcg moults 1", 28);
        Check.wrongCourt("case 0 1 present  ab", 18, PAIR);
        Check.wrongCourt("hour 1; hours 2", 8);
        Check.wrongCourt("tower 1 tops 1", 8);
        Check.wrongLaw("drop 1 if higher", 10);
        Check.wrongLaw("drop 1;  dropp 1", 9);
        Check.wrongCourt("hour 24;crow", 5);
        Check.wrongCourt("hour 2;crow;hour 24", 7);
        Check.wrongLaw("drop 10;crow", 5);
    }

    private static void fault() {
        FeatherYard x = new FeatherYard();
        Check.says(6, "`int fault()`: The first wrong byte of the latest text that was read; NONE without one, and ahead of any.");
        Check.due("ahead of any", -1, x::fault);
        Check.court(x, "crow");
        Check.due("byte 0", 0, x::fault);
        Check.due("asked again", 0, x::fault);
        Check.law(x, "drop 10");
        Check.due("the latest", 5, x::fault);
        Check.tellCourt(x, "hour 1");
        Check.due("a right one has none", -1, x::fault);
        Check.law(x, "crow");
        Check.layDown(x, "");
        Check.due("an empty one has none", -1, x::fault);
        Check.court(x, "hour 24");
        Check.argument("a call that throws", () -> x.hour(24));
        Check.put(x, "\0\1");
        x.songs(false);
        Check.put(x, "\7\7");
        Check.argument("songs are no text", () -> x.songs(false));
        Check.put(x, "\7\7");
        Check.argument("nor is what is asked", x::ask);
        x.hour(3);
        x.undo();
        x.image();
        x.back();
        Check.due("nothing but texts", 5, x::fault);
        Check.says(6, "(but for the TAPE, fault(), THE IMAGE)");
        x.hour(3);
        Check.court(x, "hour  24");
        x.undo();
        Check.due("not undone", 6, x::fault);
        Check.says(6, "(but for the TAPE, fault() and THE IMAGE itself)");
        x.back();
        Check.due("not gone back", 6, x::fault);
    }
}
