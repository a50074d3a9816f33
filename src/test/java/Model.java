import java.util.ArrayList;
import java.util.HashMap;
import java.util.List;
import java.util.Map;
import java.util.NoSuchElementException;
import java.util.function.Predicate;
import java.util.function.ToIntFunction;

/**
 * The document once more, in the slowest and plainest form: every row of gusts is flown one by one. FuzzTest asks
 * it and FeatherYard the same things.
 */
final class Model {
    static final int NONE = -1;

    static final class Bird {
        int falls, light, songs, moults;
    }

    static final class Matter {
        int one, two, present, end;

        Matter copy() {
            Matter m = new Matter();
            m.one = one;
            m.two = two;
            m.present = present;
            m.end = end;
            return m;
        }
    }

    static final class State {
        int tower = 7, top = 8, from = 5, to = 9, hour = 12, week = 0, seed = 1, texts = 0;
        int[] wind = new int[13];
        List<Bird> birds = new ArrayList<>();
        List<int[]> stocks = new ArrayList<>();
        List<Matter> cases = new ArrayList<>();
        List<int[]> log = new ArrayList<>();
        List<Line> law = null;

        State copy() {
            State s = new State();
            s.tower = tower;
            s.top = top;
            s.from = from;
            s.to = to;
            s.hour = hour;
            s.week = week;
            s.seed = seed;
            s.texts = texts;
            s.wind = wind.clone();
            s.birds = new ArrayList<>(birds);
            for (int[] row : stocks) {
                s.stocks.add(row.clone());
            }
            for (Matter m : cases) {
                s.cases.add(m.copy());
            }
            s.log = new ArrayList<>(log);
            s.law = law;
            return s;
        }
    }

    record Facts(int bird, int level, int column, int light, int hour, int breath, boolean high, boolean over) {
    }

    record Line(String kind, int n, Predicate<Facts> holds) {
    }

    /** The fate of one row: 'L', 'O' or 'A', the breath and the column. */
    record Fate(char kind, int breath, int column) {
    }

    static final class Wrong extends RuntimeException {
        private static final long serialVersionUID = 1L;
        final int at;

        Wrong(int at) {
            super(null, null, false, false);
            this.at = at;
        }
    }

    record Token(char kind, String text, int begin) {
    }

    State s = new State();
    State image = null;
    List<State> past = new ArrayList<>();
    StringBuilder tape = new StringBuilder();
    int fault = NONE;

    // ---- texts

    static List<Token> tokens(String text) {
        List<Token> all = new ArrayList<>();
        int i = 0;
        while (i < text.length()) {
            char c = text.charAt(i);
            int j = i + 1;
            if (c == ' ') {
                i++;
                continue;
            }
            char kind = c;
            if (Character.toString(c).matches("[a-z]")) {
                kind = 'w';
                while (j < text.length() && Character.toString(text.charAt(j)).matches("[a-z]")) {
                    j++;
                }
            } else if (Character.toString(c).matches("[0-9]")) {
                kind = 'n';
                while (j < text.length() && Character.toString(text.charAt(j)).matches("[0-9]")) {
                    j++;
                }
            } else {
                kind = 's';
            }
            all.add(new Token(kind, text.substring(i, j), i));
            i = j;
        }
        all.add(new Token('e', "", text.length()));
        return all;
    }

    static final class Cursor {
        final List<Token> tokens;
        int i = 0;

        Cursor(String text) {
            tokens = tokens(text);
        }

        Token peek() {
            return tokens.get(i);
        }

        boolean is(String t) {
            return peek().kind != 'e' && peek().text.equals(t);
        }

        Wrong wrong() {
            return new Wrong(peek().begin);
        }

        void need(String t) {
            if (!is(t)) {
                throw wrong();
            }
            i++;
        }

        int number(int low, int high) {
            Token t = peek();
            if (t.kind != 'n' || t.text.length() > 3) {
                throw wrong();
            }
            int v = Integer.parseInt(t.text);
            if (v < low || v > high) {
                throw wrong();
            }
            i++;
            return v;
        }

        int letters(int most) {
            Token t = peek();
            if (t.kind != 'w') {
                throw wrong();
            }
            int bits = 0;
            for (char c : t.text.toCharArray()) {
                int bit = 1 << (c - 'a');
                if (c - 'a' >= most || (bits & bit) != 0) {
                    throw wrong();
                }
                bits |= bit;
            }
            i++;
            return bits;
        }
    }

    static void readCourt(State d, String text) {
        Cursor c = new Cursor(text);
        int lines = 0;
        if (c.peek().kind == 'e') {
            return;
        }
        while (true) {
            if (++lines > 14) {
                throw c.wrong();
            }
            courtLine(d, c);
            if (c.peek().kind == 'e') {
                return;
            }
            c.need(";");
        }
    }

    private static void courtLine(State d, Cursor c) {
        Token first = c.peek();
        switch (first.text) {
            case "bird" -> {
                if (d.birds.size() == 6) {
                    throw c.wrong();
                }
                c.i++;
                Bird b = new Bird();
                c.need("falls");
                b.falls = c.number(0, 4);
                c.need("light");
                b.light = c.number(0, 3);
                c.need("songs");
                b.songs = c.letters(6);
                c.need("moults");
                b.moults = c.number(0, 5);
                d.birds.add(b);
            }
            case "counsel" -> {
                if (d.stocks.size() == 4) {
                    throw c.wrong();
                }
                c.i++;
                Token t = c.peek();
                if (t.kind != 'n' || t.text.length() != d.birds.size()) {
                    throw c.wrong();
                }
                int[] row = new int[6];
                for (int i = 0; i < t.text.length(); i++) {
                    row[i] = t.text.charAt(i) - '0';
                }
                d.stocks.add(row);
                c.i++;
            }
            case "case" -> {
                if (d.cases.size() == 12) {
                    throw c.wrong();
                }
                c.i++;
                Matter m = new Matter();
                m.one = c.number(0, d.stocks.size() - 1);
                int at = c.peek().begin;
                m.two = c.number(0, d.stocks.size() - 1);
                if (m.one == m.two) {
                    throw new Wrong(at);
                }
                c.need("present");
                m.present = c.letters(d.birds.size());
                d.cases.add(m);
            }
            case "tower" -> {
                c.i++;
                d.tower = c.number(0, 15);
                c.need("top");
                d.top = c.number(1, 12);
            }
            case "yard" -> {
                c.i++;
                d.from = c.number(0, 15);
                c.need("to");
                d.to = c.number(d.from, 15);
            }
            case "wind" -> {
                c.i++;
                int level = c.number(0, 12);
                int sign = c.is("west") ? -1 : 1;
                c.need(sign < 0 ? "west" : "east");
                d.wind[level] = sign * c.number(0, 3);
            }
            case "hour" -> {
                c.i++;
                d.hour = c.number(0, 23);
            }
            default -> throw c.wrong();
        }
    }

    static List<Line> readLaw(String text) {
        Cursor c = new Cursor(text);
        List<Line> all = new ArrayList<>();
        if (c.peek().kind == 'e') {
            return all;
        }
        while (true) {
            String kind = c.peek().text;
            if (all.size() == 12 || !List.of("drop", "lift", "east", "west").contains(kind)) {
                throw c.wrong();
            }
            c.i++;
            int n = c.number(0, 9);
            Predicate<Facts> holds = f -> true;
            if (c.is("if")) {
                c.i++;
                holds = either(c, 0);
            }
            all.add(new Line(kind, n, holds));
            if (c.peek().kind == 'e') {
                return all;
            }
            c.need(";");
        }
    }

    private static Predicate<Facts> either(Cursor c, int deep) {
        Predicate<Facts> left = both(c, deep);
        while (c.is("or")) {
            c.i++;
            left = left.or(both(c, deep));
        }
        return left;
    }

    private static Predicate<Facts> both(Cursor c, int deep) {
        Predicate<Facts> left = atom(c, deep);
        while (c.is("and")) {
            c.i++;
            left = left.and(atom(c, deep));
        }
        return left;
    }

    private static Predicate<Facts> atom(Cursor c, int deep) {
        if ((c.is("not") || c.is("(")) && deep == 6) {
            throw c.wrong();
        }
        if (c.is("not")) {
            c.i++;
            return atom(c, deep + 1).negate();
        }
        if (c.is("(")) {
            c.i++;
            Predicate<Facts> in = either(c, deep + 1);
            c.need(")");
            return in;
        }
        if (c.is("high")) {
            c.i++;
            return Facts::high;
        }
        if (c.is("over")) {
            c.i++;
            return Facts::over;
        }
        ToIntFunction<Facts> left = sum(c);
        boolean less = c.is("<");
        c.need(less ? "<" : ">");
        ToIntFunction<Facts> right = sum(c);
        return less ? f -> left.applyAsInt(f) < right.applyAsInt(f) : f -> left.applyAsInt(f) > right.applyAsInt(f);
    }

    private static ToIntFunction<Facts> sum(Cursor c) {
        ToIntFunction<Facts> left = part(c);
        while (c.is("+")) {
            c.i++;
            ToIntFunction<Facts> one = left;
            ToIntFunction<Facts> two = part(c);
            left = f -> one.applyAsInt(f) + two.applyAsInt(f);
        }
        return left;
    }

    private static ToIntFunction<Facts> part(Cursor c) {
        Map<String, ToIntFunction<Facts>> names = Map.of("bird", Facts::bird, "level", Facts::level, "column",
            Facts::column, "light", Facts::light, "hour", Facts::hour, "breath", Facts::breath);
        ToIntFunction<Facts> named = names.get(c.peek().text);
        if (named != null) {
            c.i++;
            return named;
        }
        int n = c.number(0, 999);
        return f -> n;
    }

    // ---- needs

    private static void index(boolean right) {
        if (!right) {
            throw new IndexOutOfBoundsException();
        }
    }

    private static void argument(boolean right) {
        if (!right) {
            throw new IllegalArgumentException();
        }
    }

    private static void possible(boolean right) {
        if (!right) {
            throw new IllegalStateException();
        }
    }

    private static void element(boolean right) {
        if (!right) {
            throw new NoSuchElementException();
        }
    }

    private void isBird(int b) {
        index(b >= 0 && b < s.birds.size());
    }

    private void isCounsel(int c) {
        index(c >= 0 && c < s.stocks.size());
    }

    private void isCase(int m) {
        index(m >= 0 && m < s.cases.size());
    }

    private static void isColumn(int c) {
        index(c >= 0 && c < 16);
    }

    // ---- the face

    int feed(int... numbers) {
        if (tape.length() + 20 > 400) {
            return NONE;
        }
        for (int n : numbers) {
            for (int shift = 24; shift >= 0; shift -= 8) {
                tape.append((char) (n >> shift & 255));
            }
        }
        return tape.length();
    }

    boolean end(int n) {
        if (n < 0 || n > tape.length()) {
            return false;
        }
        tape.setLength(n);
        return true;
    }

    private String takeTape() {
        String text = tape.toString();
        tape.setLength(0);
        return text;
    }

    int court() {
        String text = takeTape();
        State d = s.copy();
        try {
            fault = NONE;
            readCourt(d, text);
        } catch (Wrong w) {
            fault = w.at;
            throw new IllegalArgumentException();
        }
        if (s.texts == 12) {
            throw new UnsupportedOperationException();
        }
        s = d;
        past.clear();
        return ++s.texts;
    }

    int law() {
        String text = takeTape();
        try {
            fault = NONE;
            s.law = readLaw(text);
        } catch (Wrong w) {
            fault = w.at;
            throw new IllegalArgumentException();
        }
        past.clear();
        return s.law.size();
    }

    int fault() {
        return fault;
    }

    int bird(int bird, int what) {
        isBird(bird);
        element(what >= 0 && what < 4);
        Bird b = s.birds.get(bird);
        return new int[] {b.falls, b.light, b.songs, b.moults}[what];
    }

    int stock(int counsel, int bird) {
        isCounsel(counsel);
        isBird(bird);
        return s.stocks.get(counsel)[bird];
    }

    private int choices(Matter m, int counsel) {
        int bits = 0;
        for (int b = 0; b < s.birds.size(); b++) {
            if ((m.present & 1 << b) != 0 && s.stocks.get(counsel)[b] > 0) {
                bits |= 1 << b;
            }
        }
        return bits;
    }

    int matter(int matter, int what) {
        isCase(matter);
        element(what >= 0 && what < 6);
        Matter m = s.cases.get(matter);
        return new int[] {m.one, m.two, m.present, m.end, choices(m, m.one), choices(m, m.two)}[what];
    }

    int wind(int level) {
        index(level >= 0 && level <= 12);
        return s.wind[level];
    }

    /** How far down, and how far aside. */
    private int[] move(int bird, int level, int column, int breath) {
        Bird b = s.birds.get(bird);
        Facts f = new Facts(bird, level, column, b.light, s.hour, breath, level > s.top / 2,
            s.from <= column && column <= s.to);
        Map<String, Integer> sums = new HashMap<>();
        for (Line line : s.law == null ? List.<Line>of() : s.law) {
            if (line.holds.test(f)) {
                sums.merge(line.kind, line.n, Integer::sum);
            }
        }
        int sinks = b.falls + sums.getOrDefault("drop", 0) - sums.getOrDefault("lift", 0);
        int carried = s.wind[level] * b.light + sums.getOrDefault("east", 0) - sums.getOrDefault("west", 0);
        return new int[] {Math.min(12, Math.max(0, sinks)), carried};
    }

    int moves(int bird, int level, int column, int breath, boolean carried) {
        isBird(bird);
        index(level >= 1 && level <= 12);
        isColumn(column);
        argument(breath >= 0 && breath <= 7);
        return move(bird, level, column, breath)[carried ? 1 : 0];
    }

    private Fate fly(int bird, int[] gusts, Map<Integer, int[]> known) {
        int level = s.top;
        int column = s.tower;
        for (int breath = 0; breath < 8; breath++) {
            int l = level;
            int c = column;
            int b = breath;
            int[] m = known.computeIfAbsent(breath * 1000 + level * 20 + column, k -> move(bird, l, c, b));
            level -= m[0];
            column += m[1] + (s.birds.get(bird).light > 0 ? gusts[breath] : 0);
            if (column < 0 || column > 15) {
                return new Fate('O', breath + 1, NONE);
            }
            if (level <= 0) {
                return new Fate('L', breath + 1, column);
            }
        }
        return new Fate('A', 8, NONE);
    }

    private boolean isGood(Fate f) {
        return f.kind == 'L' && s.from <= f.column && f.column <= s.to;
    }

    private List<Fate> rows(int bird) {
        List<Fate> all = new ArrayList<>();
        Map<Integer, int[]> known = new HashMap<>();
        for (int row = 0; row < 6561; row++) {
            int[] gusts = new int[8];
            for (int i = 0, rest = row; i < 8; i++, rest /= 3) {
                gusts[i] = rest % 3 - 1;
            }
            all.add(fly(bird, gusts, known));
        }
        return all;
    }

    private int[] goods(int bird) {
        int[] all = new int[10];
        for (Fate f : rows(bird)) {
            all[isGood(f) ? f.breath : 9]++;
        }
        return all;
    }

    /** By breaths in which both are good, 9 for never. */
    private int share(int[] one, int[] two, int what) {
        long sum = 0;
        for (int i = 1; i <= 9; i++) {
            for (int j = 1; j <= 9; j++) {
                int end = i < j ? 0 : i > j ? 1 : i < 9 ? 2 : 3;
                sum += end == what ? (long) one[i] * two[j] : 0;
            }
        }
        return (int) sum;
    }

    private int gust() {
        s.seed = 1103515245 * s.seed + 12345;
        return ((s.seed >> 16) & 0x7fff) % 3 - 1;
    }

    /** The end, and the breath in which somebody was good first. */
    private int[] fall(int one, int two) {
        int[] birds = {one, two};
        int[] level = {s.top, s.top};
        int[] column = {s.tower, s.tower};
        boolean[] flies = {true, true};
        int[] good = {99, 99};
        for (int breath = 0; breath < 8; breath++) {
            for (int w = 0; w < 2; w++) {
                if (!flies[w]) {
                    continue;
                }
                int g = gust();
                int[] m = move(birds[w], level[w], column[w], breath);
                level[w] -= m[0];
                column[w] += m[1] + (s.birds.get(birds[w]).light == 0 ? 0 : g);
                if (column[w] < 0 || column[w] > 15) {
                    flies[w] = false;
                } else if (level[w] <= 0) {
                    flies[w] = false;
                    if (column[w] >= s.from && column[w] <= s.to) {
                        good[w] = breath + 1;
                    }
                }
            }
        }
        int first = Math.min(good[0], good[1]);
        int end = first == 99 ? 4 : good[0] == good[1] ? 3 : good[0] == first ? 1 : 2;
        return new int[] {end, first == 99 ? 0 : first};
    }

    private void act() {
        past.add(s.copy());
        if (past.size() > 12) {
            past.remove(0);
        }
    }

    int call(int matter, int bird, int other) {
        isCase(matter);
        isBird(bird);
        isBird(other);
        Matter m = s.cases.get(matter);
        possible(m.end == 0);
        possible((m.present >> bird & 1) == 1 && (m.present >> other & 1) == 1);
        possible(s.stocks.get(m.one)[bird] > 0 && s.stocks.get(m.two)[other] > 0);
        act();
        s.stocks.get(m.one)[bird]--;
        s.stocks.get(m.two)[other]--;
        int[] end = fall(bird, other);
        m.end = end[0];
        s.log.add(0, new int[] {s.week, matter, bird, other, end[0], end[1]});
        if (s.log.size() > 60) {
            s.log.remove(60);
        }
        return m.end;
    }

    int hour(int n) {
        argument(n >= 0 && n <= 23);
        act();
        int was = s.hour;
        s.hour = n;
        return was;
    }

    int blow(int level, int n) {
        index(level >= 0 && level <= 12);
        argument(n >= -3 && n <= 3);
        act();
        int was = s.wind[level];
        s.wind[level] = n;
        return was;
    }

    int give(int counsel, int other, int bird, int n) {
        isCounsel(counsel);
        isCounsel(other);
        isBird(bird);
        argument(counsel != other);
        argument(n >= 1 && n <= s.stocks.get(counsel)[bird]);
        act();
        s.stocks.get(counsel)[bird] -= n;
        s.stocks.get(other)[bird] = Math.min(99, s.stocks.get(other)[bird] + n);
        return s.stocks.get(other)[bird];
    }

    int appeal(int matter) {
        isCase(matter);
        int was = s.cases.get(matter).end;
        possible(was != 0);
        act();
        s.cases.get(matter).end = 0;
        return was;
    }

    int weeks(int n) {
        argument(n >= 1 && n <= 60);
        act();
        int came = 0;
        for (int week = 0; week < n; week++) {
            for (int[] row : s.stocks) {
                for (int b = 0; b < s.birds.size(); b++) {
                    for (int feather = 0; feather < s.birds.get(b).moults; feather++) {
                        if (row[b] < 99) {
                            row[b]++;
                            came++;
                        }
                    }
                }
            }
            s.week = s.week < 9999 ? s.week + 1 : 9999;
        }
        return came;
    }

    int ways(int bird, int what) {
        isBird(bird);
        element(what >= 0 && what <= 3);
        int sum = 0;
        for (Fate f : rows(bird)) {
            int is = f.kind == 'O' ? 1 : f.kind == 'A' ? 2 : isGood(f) ? 0 : 3;
            sum += is == what ? 1 : 0;
        }
        return sum;
    }

    int lands(int bird, int column) {
        isBird(bird);
        isColumn(column);
        return (int) rows(bird).stream().filter(f -> f.kind == 'L' && f.column == column).count();
    }

    int good(int bird, int k) {
        isBird(bird);
        argument(k >= 1 && k <= 8);
        return goods(bird)[k];
    }

    int straight(int bird, boolean breath) {
        isBird(bird);
        Fate f = fly(bird, new int[8], new HashMap<>());
        return f.kind != 'L' ? NONE : breath ? f.breath : f.column;
    }

    int odds(int bird, int other, int what) {
        isBird(bird);
        isBird(other);
        element(what >= 0 && what <= 3);
        return share(goods(bird), goods(other), what);
    }

    int best(int bird, int birds) {
        isBird(bird);
        int best = NONE;
        for (int b = s.birds.size() - 1; b >= 0; b--) {
            if ((birds & 1 << b) != 0 && (best == NONE || odds(b, bird, 0) >= odds(best, bird, 0))) {
                best = b;
            }
        }
        return best;
    }

    int when(int bird, int other) {
        isBird(bird);
        isBird(other);
        int now = s.hour;
        int best = 0;
        int most = NONE;
        for (int h = 23; h >= 0; h--) {
            s.hour = h;
            int sum = odds(bird, other, 0);
            if (sum >= most) {
                most = sum;
                best = h;
            }
        }
        s.hour = now;
        return best;
    }

    private List<Integer> list(int bits) {
        List<Integer> all = new ArrayList<>();
        for (int i = 0; i < 6; i++) {
            if ((bits >> i & 1) == 1) {
                all.add(i);
            }
        }
        return all;
    }

    private int[][][] table() {
        int n = s.birds.size();
        List<int[]> goods = new ArrayList<>();
        for (int b = 0; b < n; b++) {
            goods.add(goods(b));
        }
        int[][][] all = new int[n][n][2];
        for (int i = 0; i < n; i++) {
            for (int j = 0; j < n; j++) {
                all[i][j][0] = share(goods.get(i), goods.get(j), 0);
                all[i][j][1] = share(goods.get(i), goods.get(j), 1);
            }
        }
        return all;
    }

    int surest(int matter, boolean second, boolean much) {
        isCase(matter);
        Matter m = s.cases.get(matter);
        possible(m.end == 0);
        List<Integer> ones = list(choices(m, m.one));
        List<Integer> twos = list(choices(m, m.two));
        if (ones.isEmpty() || twos.isEmpty()) {
            return NONE;
        }
        int[][][] t = table();
        int most = NONE;
        int choice = NONE;
        for (int own : second ? twos : ones) {
            int least = 1000;
            for (int other : second ? ones : twos) {
                long has = second ? t[other][own][1] : t[own][other][0];
                least = (int) Math.min(least, has * 100 / (6561L * 6561L));
            }
            if (least > most) {
                most = least;
                choice = own;
            }
        }
        return much ? most : choice;
    }

    int rests(int matter, boolean first) {
        isCase(matter);
        Matter m = s.cases.get(matter);
        possible(m.end == 0);
        List<Integer> ones = list(choices(m, m.one));
        List<Integer> twos = list(choices(m, m.two));
        int[][][] t = table();
        List<Integer> rests = new ArrayList<>();
        for (int a : ones) {
            for (int b : twos) {
                if (ones.stream().allMatch(o -> t[o][b][0] <= t[a][b][0])
                    && twos.stream().allMatch(o -> t[a][o][1] <= t[a][b][1])) {
                    rests.add(10 * a + b);
                }
            }
        }
        return first ? rests.stream().min(Integer::compare).orElse(NONE) : rests.size();
    }

    int fair(int matter) {
        isCase(matter);
        Matter m = s.cases.get(matter);
        possible(m.end == 0);
        int[][][] t = table();
        int pair = NONE;
        long least = Long.MAX_VALUE;
        for (int a : list(choices(m, m.one))) {
            for (int b : list(choices(m, m.two))) {
                long apart = Math.abs((long) t[a][b][0] - t[a][b][1]);
                if (apart < least) {
                    least = apart;
                    pair = 10 * a + b;
                }
            }
        }
        return pair;
    }

    private int songsOf(int set) {
        return list(set).stream().mapToInt(b -> s.birds.get(b).songs).reduce(0, (a, b) -> a | b);
    }

    private List<Integer> sets() {
        String told = takeTape();
        argument(told.length() <= 40 && told.length() % 2 == 0);
        for (int i = 0; i < told.length(); i++) {
            argument(told.charAt(i) <= (i % 2 == 0 ? 5 : 1));
        }
        List<Integer> all = new ArrayList<>();
        for (int set = 0; set < 1 << s.birds.size(); set++) {
            boolean can = true;
            for (int i = 0; i < told.length(); i += 2) {
                boolean sings = (songsOf(set) & 1 << told.charAt(i)) != 0;
                can &= sings == (told.charAt(i + 1) == 1);
            }
            if (can) {
                all.add(set);
            }
        }
        return all;
    }

    int songs(boolean sure) {
        List<Integer> sets = sets();
        if (!sure) {
            return sets.size();
        }
        return sets.stream().reduce((a, b) -> a & b).orElse(0);
    }

    int ask() {
        List<Integer> sets = sets();
        if (sets.size() < 2) {
            return NONE;
        }
        int best = NONE;
        long least = Long.MAX_VALUE;
        for (int song = 0; song < 6; song++) {
            int bit = 1 << song;
            long with = sets.stream().filter(set -> (songsOf(set) & bit) != 0).count();
            long greater = Math.max(with, sets.size() - with);
            if (greater < least) {
                least = greater;
                best = song;
            }
        }
        return best;
    }

    int tell(int column, int breath) {
        isColumn(column);
        argument(breath >= 1 && breath <= 8);
        int bits = 0;
        for (int b = 0; b < s.birds.size(); b++) {
            if (rows(b).contains(new Fate('L', breath, column))) {
                bits |= 1 << b;
            }
        }
        return bits;
    }

    int alike() {
        int pairs = 0;
        for (int i = 0; i < s.birds.size(); i++) {
            for (int j = 0; j < i; j++) {
                pairs += java.util.Arrays.equals(goods(i), goods(j)) ? 1 : 0;
            }
        }
        return pairs;
    }

    int lasts(int counsel, int bird, int n) {
        isCounsel(counsel);
        isBird(bird);
        argument(n >= 1 && n <= 99);
        int held = s.stocks.get(counsel)[bird];
        for (int week = 0; week <= 99; week++) {
            if (held >= n) {
                return week;
            }
            held = Math.min(99, held + s.birds.get(bird).moults);
        }
        return NONE;
    }

    int rich() {
        int best = NONE;
        int most = NONE;
        for (int c = 0; c < s.stocks.size(); c++) {
            int sum = java.util.Arrays.stream(s.stocks.get(c)).sum();
            if (sum > most) {
                most = sum;
                best = c;
            }
        }
        return best;
    }

    int won(int counsel, boolean lost) {
        isCounsel(counsel);
        int sum = 0;
        for (Matter m : s.cases) {
            int has = m.end == 1 ? m.one : m.end == 2 ? m.two : NONE;
            boolean own = m.one == counsel || m.two == counsel;
            if (own && has != NONE && (has == counsel) != lost) {
                sum++;
            }
        }
        return sum;
    }

    int cover() {
        for (int size = 0; size <= 6; size++) {
            for (int set = 0; set < 64; set++) {
                int bits = set;
                if (Integer.bitCount(set) == size
                    && s.cases.stream().allMatch(m -> m.end != 0 || (m.present & bits) != 0)) {
                    return set;
                }
            }
        }
        return 0;
    }

    int widest(int bird) {
        isBird(bird);
        State now = s;
        int wide = s.to - s.from;
        int best = 0;
        int most = NONE;
        for (int from = 0; from + wide <= 15; from++) {
            s = now.copy();
            s.from = from;
            s.to = from + wide;
            int sum = ways(bird, 0);
            if (sum > most) {
                most = sum;
                best = from;
            }
        }
        s = now;
        return best;
    }

    private int tried(int bird, int other, int n, int seed) {
        int now = s.seed;
        s.seed = seed;
        int sum = 0;
        for (int i = 0; i < n; i++) {
            sum += fall(bird, other)[0] == 1 ? 1 : 0;
        }
        s.seed = now;
        return sum;
    }

    int trial(int bird, int other, int n) {
        isBird(bird);
        isBird(other);
        argument(n >= 0 && n <= 40);
        return tried(bird, other, n, s.seed);
    }

    int span(int bird, int other, int n, boolean most) {
        isBird(bird);
        isBird(other);
        argument(n >= 0 && n <= 40);
        java.util.TreeSet<Integer> all = new java.util.TreeSet<>();
        for (int seed = 1; seed <= 6; seed++) {
            all.add(tried(bird, other, n, seed));
        }
        return most ? all.last() : all.first();
    }

    int led(int bird, boolean has) {
        isBird(bird);
        int sum = 0;
        for (int[] row : s.log) {
            if (!has && (row[2] == bird || row[3] == bird)) {
                sum++;
            }
            if (has && (row[4] == 1 && row[2] == bird || row[4] == 2 && row[3] == bird)) {
                sum++;
            }
        }
        return sum;
    }

    int log(int ago, int what) {
        element(what >= 0 && what <= 5);
        return ago < 0 || ago >= s.log.size() ? NONE : s.log.get(ago)[what];
    }

    int seed(int n) {
        int was = s.seed;
        s.seed = n;
        return was;
    }

    boolean undo() {
        if (past.isEmpty()) {
            return false;
        }
        s = past.remove(past.size() - 1);
        return true;
    }

    void image() {
        image = s.copy();
    }

    boolean back() {
        if (image == null) {
            return false;
        }
        s = image.copy();
        past.clear();
        return true;
    }

    int count(int what) {
        int open = 0;
        for (int m = 0; m < s.cases.size(); m++) {
            open |= s.cases.get(m).end == 0 ? 1 << m : 0;
        }
        int calm = java.util.Arrays.stream(s.wind).allMatch(w -> w == 0) ? 1 : 0;
        int[] all = {s.birds.size(), s.stocks.size(), s.cases.size(), s.texts, s.law == null ? NONE : s.law.size(),
            s.week, s.hour, s.tower, s.top, s.from, s.to, open, calm, s.log.size(), past.size()};
        return what < 0 || what >= all.length ? NONE : all[what];
    }
}
