import java.io.IOException;
import java.nio.charset.StandardCharsets;
import java.nio.file.Files;
import java.nio.file.Path;
import java.util.TreeSet;
import java.util.concurrent.Callable;

/** What the tests share: an answer that is due, the sentence it is due by, and texts put on a tape. */
final class Check {
    private static final String WRONG_TEXT = "throws.IllegalArgumentException";
    static int wrong = 0;
    private static String sentence = "";
    private static String document = null;
    private static final TreeSet<Integer> promises = new TreeSet<>();

    private Check() {
    }

    /** The promise and the document's sentence by which the answers that follow are due. */
    static void says(int promise, String words) {
        sentence = "promise " + promise + " \"" + words + "\": ";
        promises.add(promise);
        if (!document().isEmpty() && !document().contains(plain(words))) {
            fail("the document does not say so");
        }
    }

    private static String document() {
        if (document == null) {
            Path file = Path.of(System.getenv().getOrDefault("SHARED", "../shared"), "DOC.md");
            try {
                document = plain(Files.readString(file));
            } catch (IOException e) {
                System.out.println("there is no " + file + " to look the sentences up in");
                document = "";
            }
        }
        return document;
    }

    private static String plain(String text) {
        return text.replaceAll("\\s+", " ");
    }

    /** Each of these promises has had a sentence. */
    static void allSaid(int from, int to) {
        sentence = "";
        for (int promise = from; promise <= to; promise++) {
            if (!promises.contains(promise)) {
                fail("no sentence of promise " + promise + " is tested");
            }
        }
    }

    private static void fail(String what) {
        wrong++;
        System.out.println(sentence + what);
    }

    /** What a call answers: its number, or throws.Name. */
    static String answer(Callable<?> call) {
        try {
            Object got = call.call();
            if (got instanceof Boolean) {
                return (Boolean) got ? "1" : "0";
            }
            return String.valueOf(got);
        } catch (Exception e) {
            return "throws." + e.getClass().getSimpleName();
        }
    }

    static void due(String name, Object want, Callable<?> call) {
        String got = answer(call);
        if (!got.equals(String.valueOf(want))) {
            fail(name + " answered " + got + ", due is " + want);
        }
    }

    static void index(String name, Callable<?> call) {
        due(name, "throws.IndexOutOfBoundsException", call);
    }

    static void argument(String name, Callable<?> call) {
        due(name, "throws.IllegalArgumentException", call);
    }

    static void state(String name, Callable<?> call) {
        due(name, "throws.IllegalStateException", call);
    }

    static void element(String name, Callable<?> call) {
        due(name, "throws.NoSuchElementException", call);
    }

    /** Puts bytes on the tape, in place of what it had. */
    static void put(FeatherYard x, byte[] bytes) {
        x.end(0);
        for (int at = 0; at < bytes.length; at += 20) {
            int[] n = new int[5];
            for (int i = 0; i < 20; i++) {
                int b = at + i < bytes.length ? bytes[at + i] & 255 : 0;
                n[i / 4] |= b << (24 - i % 4 * 8);
            }
            x.feed(n[0], n[1], n[2], n[3], n[4]);
        }
        if (!x.end(bytes.length)) {
            throw new IllegalStateException("the text is too long for the tape");
        }
    }

    static void put(FeatherYard x, String text) {
        put(x, text.getBytes(StandardCharsets.ISO_8859_1));
    }

    static String court(FeatherYard x, String text) {
        put(x, text);
        return answer(x::court);
    }

    static String law(FeatherYard x, String text) {
        put(x, text);
        return answer(x::law);
    }

    /** A text that has to be right, for what is asked behind it. */
    static void tellCourt(FeatherYard x, String text) {
        due("court of '" + text + "'", x.count(3) + 1, () -> court(x, text));
    }

    /** A law that has to be right, for what is asked behind it. */
    static void layDown(FeatherYard x, String text) {
        int lines = text.isBlank() ? 0 : text.split(";").length;
        due("law of '" + text + "'", lines, () -> law(x, text));
    }

    /** A new object with these texts of the court. */
    static FeatherYard yard(String... texts) {
        FeatherYard x = new FeatherYard();
        for (String text : texts) {
            put(x, text);
            x.court();
        }
        return x;
    }

    /** The text is right behind texts that were right. */
    static FeatherYard rightCourt(String text, String... before) {
        FeatherYard x = yard(before);
        due("court of '" + text + "'", before.length + 1, () -> court(x, text));
        due("fault of '" + text + "'", -1, x::fault);
        return x;
    }

    /** The text is wrong there behind texts that were right. */
    static FeatherYard wrongCourt(String text, int at, String... before) {
        FeatherYard x = yard(before);
        due("court of '" + text + "'", WRONG_TEXT, () -> court(x, text));
        due("fault of '" + text + "'", at, x::fault);
        due("texts behind '" + text + "'", before.length, () -> x.count(3));
        return x;
    }

    static void rightLaw(String text, int lines) {
        FeatherYard x = new FeatherYard();
        due("law of '" + text + "'", lines, () -> law(x, text));
        due("fault of '" + text + "'", -1, x::fault);
        due("lines of '" + text + "'", lines, () -> x.count(4));
    }

    static void wrongLaw(String text, int at) {
        FeatherYard x = new FeatherYard();
        due("law of '" + text + "'", WRONG_TEXT, () -> law(x, text));
        due("fault of '" + text + "'", at, x::fault);
        due("lines behind '" + text + "'", -1, () -> x.count(4));
    }

    /** All that can be told of an object, but for its tape, fault and image. */
    static String told(FeatherYard x) {
        StringBuilder b = new StringBuilder("counts");
        for (int what = 0; what <= 14; what++) {
            b.append(' ').append(x.count(what));
        }
        b.append(" winds");
        for (int level = 0; level <= 12; level++) {
            b.append(' ').append(x.wind(level));
        }
        for (int bird = 0; bird < x.count(0); bird++) {
            b.append(" bird ").append(x.bird(bird, 0)).append(x.bird(bird, 1)).append(' ').append(x.bird(bird, 2));
            b.append(' ').append(x.bird(bird, 3)).append(" moves ").append(x.moves(bird, 8, 7, 0, false));
            b.append(' ').append(x.moves(bird, 8, 7, 0, true)).append(" good ").append(x.ways(bird, 0)).append(" stocks");
            for (int counsel = 0; counsel < x.count(1); counsel++) {
                b.append(' ').append(x.stock(counsel, bird));
            }
        }
        for (int matter = 0; matter < x.count(2); matter++) {
            b.append(" case ").append(x.matter(matter, 0)).append(x.matter(matter, 1)).append(' ');
            b.append(x.matter(matter, 2)).append(" end ").append(x.matter(matter, 3));
        }
        for (int what = 0; what <= 5; what++) {
            b.append(" log ").append(x.log(0, what)).append(' ').append(x.log(x.count(13) - 1, what));
        }
        int seed = x.seed(0);
        x.seed(seed);
        return b.append(" seed ").append(seed).toString();
    }

    static void close(String name) {
        System.out.println(wrong == 0 ? name + ": all as due" : name + ": " + wrong + " not as due");
        if (wrong != 0) {
            System.exit(1);
        }
    }
}
