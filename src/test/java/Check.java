import java.nio.charset.StandardCharsets;
import java.util.concurrent.Callable;

/** What the tests share: an answer that is due, and texts put on a tape. */
final class Check {
    static int wrong = 0;

    private Check() {
    }

    /** What a call answers: its number, or throws.Name. */
    static String answer(Callable<?> call) {
        try {
            Object got = call.call();
            if (got instanceof Boolean) {
                return (Boolean) got ? "1" : "0";
            }
            return String.valueOf(got);
        } catch (Exception e) {
            return "throws." + e.getClass().getSimpleName();
        }
    }

    static void due(String name, Object want, Callable<?> call) {
        String got = answer(call);
        if (!got.equals(String.valueOf(want))) {
            wrong++;
            System.out.println(name + " answered " + got + ", due is " + want);
        }
    }

    static void index(String name, Callable<?> call) {
        due(name, "throws.IndexOutOfBoundsException", call);
    }

    static void argument(String name, Callable<?> call) {
        due(name, "throws.IllegalArgumentException", call);
    }

    static void state(String name, Callable<?> call) {
        due(name, "throws.IllegalStateException", call);
    }

    static void element(String name, Callable<?> call) {
        due(name, "throws.NoSuchElementException", call);
    }

    /** Puts bytes on the tape, in place of what it had. */
    static void put(FeatherYard x, byte[] bytes) {
        x.end(0);
        for (int at = 0; at < bytes.length; at += 20) {
            int[] n = new int[5];
            for (int i = 0; i < 20; i++) {
                int b = at + i < bytes.length ? bytes[at + i] & 255 : 0;
                n[i / 4] |= b << (24 - i % 4 * 8);
            }
            x.feed(n[0], n[1], n[2], n[3], n[4]);
        }
        if (!x.end(bytes.length)) {
            throw new IllegalStateException("the text is too long for the tape");
        }
    }

    static void put(FeatherYard x, String text) {
        put(x, text.getBytes(StandardCharsets.ISO_8859_1));
    }

    static String court(FeatherYard x, String text) {
        put(x, text);
        return answer(x::court);
    }

    static String law(FeatherYard x, String text) {
        put(x, text);
        return answer(x::law);
    }

    /** A new object with these texts of the court. */
    static FeatherYard yard(String... texts) {
        FeatherYard x = new FeatherYard();
        for (String text : texts) {
            put(x, text);
            x.court();
        }
        return x;
    }

    static void rightCourt(String text) {
        FeatherYard x = new FeatherYard();
        due("court of '" + text + "'", 1, () -> court(x, text));
        due("fault of '" + text + "'", -1, x::fault);
    }

    static void wrongCourt(String text, int at) {
        FeatherYard x = new FeatherYard();
        argument("court of '" + text + "'", () -> court(x, text).equals("throws.IllegalArgumentException") ? fail() : 0);
        due("fault of '" + text + "'", at, x::fault);
        due("texts behind '" + text + "'", 0, () -> x.count(3));
    }

    static void rightLaw(String text, int lines) {
        FeatherYard x = new FeatherYard();
        due("law of '" + text + "'", lines, () -> law(x, text));
        due("fault of '" + text + "'", -1, x::fault);
        due("lines of '" + text + "'", lines, () -> x.count(4));
    }

    static void wrongLaw(String text, int at) {
        FeatherYard x = new FeatherYard();
        argument("law of '" + text + "'", () -> law(x, text).equals("throws.IllegalArgumentException") ? fail() : 0);
        due("fault of '" + text + "'", at, x::fault);
        due("lines behind '" + text + "'", -1, () -> x.count(4));
    }

    private static int fail() {
        throw new IllegalArgumentException();
    }

    static void close(String name) {
        System.out.println(wrong == 0 ? name + ": all as due" : name + ": " + wrong + " not as due");
        if (wrong != 0) {
            System.exit(1);
        }
    }
}
