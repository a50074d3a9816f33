import java.util.Random;
import java.util.concurrent.Callable;

/** Asks FeatherYard and the plain Model the same things, run by run from fixed seeds. */
public final class FuzzTest {
    private final Random random;
    private final FeatherYard x = new FeatherYard();
    private final Model m = new Model();
    private final StringBuilder story = new StringBuilder();
    private int birds = 0;
    private int counsels = 0;

    private FuzzTest(long seed) {
        random = new Random(seed);
    }

    private int upTo(int n) {
        return random.nextInt(n + 1);
    }

    private boolean rarely() {
        return random.nextInt(12) == 0;
    }

    /** Mostly 0 to n, at times beside it. */
    private int about(int n) {
        return rarely() ? random.nextInt(n + 4) - 2 : upTo(Math.max(0, n));
    }

    private int bird() {
        return about(x.count(0) - 1);
    }

    private int counsel() {
        return about(x.count(1) - 1);
    }

    private int matter() {
        return about(x.count(2) - 1);
    }

    private boolean flip() {
        return random.nextBoolean();
    }

    private boolean same(String name, Callable<?> ours, Callable<?> due) {
        String got = Check.answer(ours);
        String want = Check.answer(due);
        story.append(name).append(" -> ").append(got).append('\n');
        if (!got.equals(want)) {
            System.out.print(story);
            System.out.println("due is " + want);
            return false;
        }
        return true;
    }

    private String word(int letters) {
        StringBuilder b = new StringBuilder();
        for (int i = 0; i < letters; i++) {
            if (flip()) {
                b.append((char) ('a' + i));
            }
        }
        if (b.length() == 0 || rarely()) {
            b.append((char) ('a' + upTo(Math.max(0, letters - 1))));
        }
        return flip() ? b.toString() : b.reverse().toString();
    }

    private String courtLine() {
        int kind = upTo(9);
        if (kind <= 2 && (birds < 6 || rarely()) || birds == 0 && !rarely()) {
            birds++;
            return "bird falls " + about(4) + " light " + about(3) + " songs " + word(6) + " moults " + about(5);
        }
        if (kind <= 4 && (counsels < 4 || rarely()) || counsels < 2 && !rarely()) {
            StringBuilder f = new StringBuilder("counsel ");
            for (int i = 0; i < birds + (rarely() ? 1 : 0); i++) {
                f.append(upTo(9));
            }
            counsels++;
            return f.toString();
        }
        switch (kind) {
            case 5:
                return "tower " + about(15) + " top " + about(12);
            case 6:
                int from = upTo(12);
                return "yard " + from + " to " + (from + about(15 - from));
            case 7:
                return "wind " + about(12) + (flip() ? " east " : " west ") + about(3);
            case 8:
                return "hour " + about(23);
            default:
                int one = upTo(Math.max(0, counsels - 1));
                int two = rarely() ? one : (one + 1) % Math.max(1, counsels);
                return "case " + one + " " + two + " present " + word(birds);
        }
    }

    private String part() {
        String[] parts = {"bird", "level", "column", "light", "hour", "breath"};
        return upTo(2) == 0 ? String.valueOf(upTo(rarely() ? 1200 : 16)) : parts[upTo(5)];
    }

    private String sum() {
        return part() + (upTo(3) == 0 ? "+" + part() : "");
    }

    private String atom(int deep) {
        switch (upTo(7)) {
            case 0:
                return "not " + atom(deep + 1);
            case 1:
                return deep < 9 ? "(" + condition(deep + 1) + ")" : "over";
            case 2:
                return "high";
            case 3:
                return "over";
            default:
                return sum() + (flip() ? "<" : ">") + sum();
        }
    }

    private String condition(int deep) {
        String all = atom(deep);
        for (int i = 0; i < 3 && upTo(2) == 0; i++) {
            all += (flip() ? " and " : " or ") + atom(deep);
        }
        return all;
    }

    private String lawLine() {
        String[] kinds = {"drop", "lift", "east", "west"};
        String line = kinds[upTo(3)] + " " + (upTo(9) == 0 ? about(9) : upTo(2));
        return line + (upTo(4) == 0 ? "" : " if " + condition(0));
    }

    private String text(boolean law) {
        StringBuilder b = new StringBuilder();
        int lines = rarely() ? upTo(16) : law ? upTo(5) : 3 + upTo(9);
        for (int i = 0; i < lines; i++) {
            String line = law ? lawLine() : courtLine();
            if (b.length() + line.length() > 395) {
                break;
            }
            b.append(i == 0 ? "" : ";").append(line);
        }
        if (b.length() > 0 && upTo(5) == 0) {
            spoil(b);
        }
        return b.length() > 400 ? b.substring(0, 400) : b.toString();
    }

    private void spoil(StringBuilder b) {
        String signs = " ;()<>+09azAZ=\t\u00ff-.";
        int at = upTo(b.length() - 1);
        switch (upTo(3)) {
            case 0:
                b.deleteCharAt(at);
                break;
            case 1:
                b.insert(at, signs.charAt(upTo(signs.length() - 1)));
                break;
            case 2:
                b.setCharAt(at, signs.charAt(upTo(signs.length() - 1)));
                break;
            default:
                b.setLength(at);
                break;
        }
    }

    private boolean put(String text) {
        story.append("tape '").append(text).append("'\n");
        Check.put(x, text);
        m.tape.setLength(0);
        m.tape.append(text);
        return true;
    }

    /** A text that is right, so that most runs have birds, counsel and cases. */
    private boolean firstText() {
        StringBuilder b = new StringBuilder();
        int many = 2 + upTo(2);
        for (int i = 0; i < many; i++) {
            b.append("bird falls ").append(1 + upTo(3)).append(" light ").append(upTo(flip() ? 1 : 3));
            b.append(" songs ").append((char) ('a' + upTo(5))).append(" moults ").append(upTo(5)).append(';');
        }
        for (int i = 0; i < 2 + upTo(1); i++) {
            b.append("counsel ");
            for (int k = 0; k < many; k++) {
                b.append(upTo(9));
            }
            b.append(';');
        }
        for (int i = 0; i < 3; i++) {
            b.append(flip() ? "case 0 1 present " : "case 1 0 present ");
            b.append("abcd", 0, many).append(';');
        }
        b.append("wind ").append(1 + upTo(8)).append(flip() ? " east " : " west ").append(upTo(2));
        put(b.toString());
        return same("court", x::court, m::court);
    }

    private boolean readText(boolean law) {
        birds = x.count(0);
        counsels = x.count(1);
        put(text(law));
        boolean right = law ? same("law", x::law, m::law) : same("court", x::court, m::court);
        return right && same("fault", x::fault, m::fault) && same("end(1)", () -> x.end(1), () -> m.end(1));
    }

    private boolean sing() {
        StringBuilder b = new StringBuilder();
        int n = rarely() ? upTo(21) : upTo(4);
        for (int i = 0; i < n; i++) {
            b.append((char) (rarely() && rarely() ? 6 : upTo(5))).append((char) (rarely() && rarely() ? 2 : upTo(1)));
        }
        if (rarely()) {
            b.append((char) 0);
        }
        put(b.toString());
        boolean sure = flip();
        return flip() ? same("ask", x::ask, m::ask)
            : same("songs " + sure, () -> x.songs(sure), () -> m.songs(sure));
    }

    /** A call that can be, if there is one. */
    private boolean callOpen() {
        for (int i = 0; i < 20; i++) {
            int c = upTo(Math.max(0, x.count(2) - 1));
            int bird = upTo(5);
            int other = upTo(5);
            if ((x.count(11) >> c & 1) != 0 && (x.matter(c, 4) >> bird & 1) != 0
                && (x.matter(c, 5) >> other & 1) != 0) {
                return same("call " + c + " " + bird + " " + other, () -> x.call(c, bird, other),
                    () -> m.call(c, bird, other));
            }
        }
        return true;
    }

    private boolean act() {
        int a = counsel();
        int b = counsel();
        int bird = bird();
        int other = bird();
        int c = matter();
        int n = random.nextInt(5) == 0 ? about(60) : about(3);
        switch (upTo(15)) {
            case 0:
                int hour = about(23);
                return same("hour " + hour, () -> x.hour(hour), () -> m.hour(hour));
            case 1:
                int level = about(12);
                int blow = about(6) - 3;
                return same("blow " + level + " " + blow, () -> x.blow(level, blow), () -> m.blow(level, blow));
            case 2:
                return same("give " + a + " " + b + " " + bird + " " + n, () -> x.give(a, b, bird, n),
                    () -> m.give(a, b, bird, n));
            case 3:
            case 4:
            case 5:
                return same("appeal " + c, () -> x.appeal(c), () -> m.appeal(c));
            case 6:
            case 7:
                return same("weeks " + n, () -> x.weeks(n), () -> m.weeks(n));
            case 8:
                int seed = flip() ? random.nextInt() : upTo(9);
                return same("seed " + seed, () -> x.seed(seed), () -> m.seed(seed));
            case 9:
                return same("undo", x::undo, m::undo);
            case 10:
                if (upTo(3) == 0) {
                    x.image();
                    m.image();
                    story.append("image\n");
                }
                return upTo(5) > 0 || same("back", x::back, m::back);
            case 11:
            case 12:
            case 13:
                return callOpen();
            default:
                return same("call " + c + " " + bird + " " + other, () -> x.call(c, bird, other),
                    () -> m.call(c, bird, other));
        }
    }

    private boolean askPlain() {
        int a = counsel();
        int bird = bird();
        int c = matter();
        int what = about(5);
        boolean f = flip();
        switch (upTo(12)) {
            case 0:
                return same("bird " + bird + " " + what, () -> x.bird(bird, what), () -> m.bird(bird, what));
            case 1:
                return same("stock " + a + " " + bird, () -> x.stock(a, bird), () -> m.stock(a, bird));
            case 2:
                return same("matter " + c + " " + what, () -> x.matter(c, what), () -> m.matter(c, what));
            case 3:
                int level = about(12);
                return same("wind " + level, () -> x.wind(level), () -> m.wind(level));
            case 4:
                int n = about(99);
                return same("lasts " + a + " " + bird + " " + n, () -> x.lasts(a, bird, n),
                    () -> m.lasts(a, bird, n));
            case 5:
                return same("rich", x::rich, m::rich);
            case 6:
                return same("won " + a + " " + f, () -> x.won(a, f), () -> m.won(a, f));
            case 7:
                return same("cover", x::cover, m::cover);
            case 8:
                return same("led " + bird + " " + f, () -> x.led(bird, f), () -> m.led(bird, f));
            case 9:
                int ago = about(Math.max(1, x.count(13)));
                return same("log " + ago + " " + what, () -> x.log(ago, what), () -> m.log(ago, what));
            case 10:
                return sing();
            default:
                int k = about(14);
                return same("count " + k, () -> x.count(k), () -> m.count(k));
        }
    }

    private boolean askFates() {
        int bird = bird();
        int other = bird();
        int what = about(3);
        int column = about(15);
        int k = 1 + about(7);
        boolean f = flip();
        switch (upTo(8)) {
            case 0:
                int level = 1 + about(11);
                return same("moves " + bird + " " + level + " " + column + " " + k + " " + f,
                    () -> x.moves(bird, level, column, k - 1, f), () -> m.moves(bird, level, column, k - 1, f));
            case 1:
                return same("ways " + bird + " " + what, () -> x.ways(bird, what), () -> m.ways(bird, what));
            case 2:
                return same("lands " + bird + " " + column, () -> x.lands(bird, column), () -> m.lands(bird, column));
            case 3:
                return same("good " + bird + " " + k, () -> x.good(bird, k), () -> m.good(bird, k));
            case 4:
                return same("straight " + bird + " " + f, () -> x.straight(bird, f), () -> m.straight(bird, f));
            case 5:
                int n = flip() ? about(40) : upTo(5);
                return same("trial " + bird + " " + other + " " + n, () -> x.trial(bird, other, n),
                    () -> m.trial(bird, other, n));
            case 6:
                int calls = about(12);
                return same("span " + bird + " " + other + " " + calls + " " + f,
                    () -> x.span(bird, other, calls, f), () -> m.span(bird, other, calls, f));
            case 7:
                return same("tell " + column + " " + k, () -> x.tell(column, k), () -> m.tell(column, k));
            default:
                return same("odds " + bird + " " + other + " " + what, () -> x.odds(bird, other, what),
                    () -> m.odds(bird, other, what));
        }
    }

    private boolean askChoices() {
        int bird = bird();
        int other = bird();
        int c = matter();
        boolean f = flip();
        boolean g = flip();
        int set = rarely() ? random.nextInt() : upTo(63);
        switch (upTo(upTo(2) == 0 ? 6 : 4)) {
            case 0:
                return same("best " + bird + " " + set, () -> x.best(bird, set), () -> m.best(bird, set));
            case 1:
                return same("surest " + c + " " + f + " " + g, () -> x.surest(c, f, g), () -> m.surest(c, f, g));
            case 2:
                return same("rests " + c + " " + f, () -> x.rests(c, f), () -> m.rests(c, f));
            case 3:
                return same("fair " + c, () -> x.fair(c), () -> m.fair(c));
            case 4:
                return same("alike", x::alike, m::alike);
            case 5:
                return same("widest " + bird, () -> x.widest(bird), () -> m.widest(bird));
            default:
                return same("when " + bird + " " + other, () -> x.when(bird, other), () -> m.when(bird, other));
        }
    }

    /** Everything that can be told without much work, so that no change goes unseen. */
    private boolean sameState() {
        boolean right = true;
        for (int what = -1; what <= 15 && right; what++) {
            int w = what;
            right = same("count " + w, () -> x.count(w), () -> m.count(w));
        }
        for (int c = 0; c < x.count(1) && right; c++) {
            for (int b = 0; b < x.count(0) && right; b++) {
                int counsel = c;
                int bird = b;
                right = same("stock " + c + " " + b, () -> x.stock(counsel, bird), () -> m.stock(counsel, bird));
            }
        }
        for (int c = 0; c < x.count(2) && right; c++) {
            int matter = c;
            right = same("matter " + c, () -> x.matter(matter, 3), () -> m.matter(matter, 3));
        }
        return right && same("seed", () -> x.seed(m.s.seed), () -> m.seed(m.s.seed));
    }

    private boolean run(int calls) {
        boolean right = true;
        for (int i = 0; i < calls && right; i++) {
            int kind = upTo(39);
            if (i == 0 && upTo(7) > 0) {
                right = firstText();
            } else if (i < 2 || kind == 0 && upTo(3) == 0) {
                right = readText(false);
            } else if (i == 2 || kind <= 2) {
                right = readText(true);
            } else if (kind < 16) {
                right = act();
            } else if (kind < 29) {
                right = askPlain();
            } else if (kind < 37) {
                right = askFates();
            } else {
                right = askChoices();
            }
        }
        return right && sameState();
    }

    public static void main(String[] args) {
        int runs = args.length > 0 ? Integer.parseInt(args[0]) : 120;
        long from = args.length > 1 ? Long.parseLong(args[1]) : 1;
        for (int run = 0; run < runs; run++) {
            if (!new FuzzTest(from + run).run(300)) {
                System.out.println("FuzzTest: run " + (from + run) + " is not as due");
                System.exit(1);
            }
        }
        System.out.println("FuzzTest: " + runs + " runs as due");
    }
}
