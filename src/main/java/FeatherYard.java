import java.util.Arrays;
import java.util.NoSuchElementException;

/** A court in which feathers that fall from a tower decide the cases. */
public final class FeatherYard {
    public static final int NONE = -1;

    private static final int TAPE = 400;
    private static final int LEVELS = 13;
    private static final int COLUMNS = 16;
    private static final int HOURS = 24;
    private static final int BIRDS = 6;
    private static final int SONGS = 6;
    private static final int COUNSEL = 4;
    private static final int CASES = 12;
    private static final int TEXTS = 12;
    private static final int BREATHS = 8;
    private static final int ROWS = 6561;
    private static final int PAIRS = ROWS * ROWS;
    private static final int SETS = 1 << BIRDS;
    private static final int STOCK_MOST = 99;
    private static final int WEEK_MOST = 9999;
    private static final int WIND_MOST = 3;
    private static final int ACTS = 12;
    private static final int OPEN = 0;
    private static final int FIRST = 1;
    private static final int SECOND = 2;
    private static final int MARRIAGE = 3;
    private static final int NEVER_MET = 4;

    private final int[] tape = new int[TAPE];
    private int tapeLength = 0;
    private int fault = NONE;
    private final Court court = new Court();
    private final Law law = new Law();
    private final Court draftCourt = new Court();
    private final Law draftLaw = new Law();
    private final CourtText courtText = new CourtText(tape, draftCourt);
    private final LawText lawText = new LawText(tape, draftLaw);
    private boolean imageKept = false;
    private final Court imageCourt = new Court();
    private final Law imageLaw = new Law();
    private final Court[] past = new Court[ACTS];
    private int pastCount = 0;
    private int pastNext = 0;
    private final Air air = new Air(court, law);
    private final Reckoner reckoner = new Reckoner(air);
    private final Fates[] fates = new Fates[BIRDS];
    private boolean fatesKnown = false;
    private final Fates guess = new Fates();
    private final Fates otherGuess = new Fates();

    public FeatherYard() {
        for (int i = 0; i < past.length; i++) {
            past[i] = new Court();
        }
        for (int i = 0; i < fates.length; i++) {
            fates[i] = new Fates();
        }
    }

    // ---- the tape and its texts

    public int feed(int a, int b, int c, int d, int e) {
        if (tapeLength + 20 > TAPE) {
            return NONE;
        }
        putOnTape(a);
        putOnTape(b);
        putOnTape(c);
        putOnTape(d);
        putOnTape(e);
        return tapeLength;
    }

    private void putOnTape(int number) {
        for (int shift = 24; shift >= 0 && tapeLength < TAPE; shift -= 8) {
            tape[tapeLength] = (number >>> shift) & 255;
            tapeLength++;
        }
    }

    public boolean end(int n) {
        if (n < 0 || n > tapeLength) {
            return false;
        }
        tapeLength = n;
        return true;
    }

    public int court() throws IllegalArgumentException, UnsupportedOperationException {
        int length = useTapeUp();
        draftCourt.copyFrom(court);
        fault = courtText.read(length);
        if (fault != NONE) {
            throw new IllegalArgumentException("the text is wrong");
        }
        if (court.texts >= TEXTS) {
            throw new UnsupportedOperationException("there are 12 texts");
        }
        draftCourt.texts++;
        court.copyFrom(draftCourt);
        forgetActs();
        forgetFates();
        return court.texts;
    }

    public int law() throws IllegalArgumentException {
        int length = useTapeUp();
        fault = lawText.read(length);
        if (fault != NONE) {
            throw new IllegalArgumentException("the text is wrong");
        }
        law.copyFrom(draftLaw);
        forgetActs();
        forgetFates();
        return law.lines;
    }

    private int useTapeUp() {
        int length = tapeLength;
        tapeLength = 0;
        return length;
    }

    public int fault() {
        return fault;
    }

    // ---- what there is

    public int bird(int bird, int what) throws IndexOutOfBoundsException, NoSuchElementException {
        needBird(bird);
        switch (what) {
            case 0: return court.falls[bird];
            case 1: return court.lights[bird];
            case 2: return court.tunes[bird];
            case 3: return court.sheds[bird];
            default: throw new NoSuchElementException("there is no such what");
        }
    }

    public int stock(int counsel, int bird) throws IndexOutOfBoundsException {
        needCounsel(counsel);
        needBird(bird);
        return court.bench.held(counsel, bird);
    }

    public int matter(int matter, int what) throws IndexOutOfBoundsException, NoSuchElementException {
        needCase(matter);
        Bench bench = court.bench;
        switch (what) {
            case 0: return bench.firsts[matter];
            case 1: return bench.seconds[matter];
            case 2: return bench.present[matter];
            case 3: return bench.ends[matter];
            case 4: return bench.choices(matter, false);
            case 5: return bench.choices(matter, true);
            default: throw new NoSuchElementException("there is no such what");
        }
    }

    public int wind(int level) throws IndexOutOfBoundsException {
        needLevel(level, 0);
        return court.winds[level];
    }

    public int moves(int bird, int level, int column, int breath, boolean carried)
            throws IndexOutOfBoundsException, IllegalArgumentException {
        needBird(bird);
        needLevel(level, 1);
        needColumn(column);
        needWithin(breath, 0, BREATHS - 1);
        air.weigh(bird, level, column, breath);
        return carried ? air.carried : air.sinks;
    }

    public int count(int what) {
        switch (what) {
            case 0: return court.birds;
            case 1: return court.bench.counsels;
            case 2: return court.bench.cases;
            case 3: return court.texts;
            case 4: return law.lines;
            case 5: return court.week;
            case 6: return court.hour;
            case 7: return court.tower;
            case 8: return court.top;
            case 9: return court.from;
            case 10: return court.to;
            case 11: return court.bench.openCases();
            case 12: return court.isCalm() ? 1 : 0;
            case 13: return court.journal.size;
            case 14: return pastCount;
            default: return NONE;
        }
    }

    // ---- acts

    public int call(int matter, int bird, int other) throws IndexOutOfBoundsException, IllegalStateException {
        needCase(matter);
        needBird(bird);
        needBird(other);
        Bench bench = court.bench;
        if (bench.ends[matter] != OPEN || (bench.choices(matter, false) >> bird & 1) == 0
                || (bench.choices(matter, true) >> other & 1) == 0) {
            throw new IllegalStateException("it cannot be called so");
        }
        remember();
        bench.add(bench.firsts[matter], bird, -1);
        bench.add(bench.seconds[matter], other, -1);
        air.duel(bird, other, court.seed);
        court.seed = air.seed;
        bench.ends[matter] = air.ending();
        court.journal.open(court.week, matter);
        court.journal.write(bird, other, air.ending(), air.firstGood());
        return bench.ends[matter];
    }

    public int hour(int n) throws IllegalArgumentException {
        needWithin(n, 0, HOURS - 1);
        remember();
        int was = court.hour;
        court.hour = n;
        forgetFates();
        return was;
    }

    public int blow(int level, int n) throws IndexOutOfBoundsException, IllegalArgumentException {
        needLevel(level, 0);
        needWithin(n, -WIND_MOST, WIND_MOST);
        remember();
        int was = court.winds[level];
        court.winds[level] = n;
        forgetFates();
        return was;
    }

    public int give(int counsel, int other, int bird, int n)
            throws IndexOutOfBoundsException, IllegalArgumentException {
        needCounsel(counsel);
        needCounsel(other);
        needBird(bird);
        if (counsel == other) {
            throw new IllegalArgumentException("both are one");
        }
        needWithin(n, 1, court.bench.held(counsel, bird));
        remember();
        court.bench.add(counsel, bird, -n);
        court.bench.add(other, bird, n);
        return court.bench.held(other, bird);
    }

    public int appeal(int matter) throws IndexOutOfBoundsException, IllegalStateException {
        needCase(matter);
        int was = court.bench.ends[matter];
        if (was == OPEN) {
            throw new IllegalStateException("it is open");
        }
        remember();
        court.bench.ends[matter] = OPEN;
        return was;
    }

    public int weeks(int n) throws IllegalArgumentException {
        needWithin(n, 1, 60);
        remember();
        int came = 0;
        for (int counsel = 0; counsel < court.bench.counsels; counsel++) {
            for (int bird = 0; bird < court.birds; bird++) {
                came += court.bench.add(counsel, bird, n * court.sheds[bird]);
            }
        }
        court.week = Math.min(WEEK_MOST, court.week + n);
        return came;
    }

    public int seed(int n) {
        int was = court.seed;
        court.seed = n;
        return was;
    }

    // ---- where a feather falls

    public int ways(int bird, int what) throws IndexOutOfBoundsException, NoSuchElementException {
        needBird(bird);
        if (what < 0 || what > 3) {
            throw new NoSuchElementException("there is no such what");
        }
        reckonFates();
        Fates known = fates[bird];
        switch (what) {
            case 0: return known.allGood();
            case 1: return known.off;
            case 2: return known.aloft;
            default: return ROWS - known.allGood() - known.off - known.aloft;
        }
    }

    public int lands(int bird, int column) throws IndexOutOfBoundsException {
        needBird(bird);
        needColumn(column);
        reckonFates();
        Fates known = fates[bird];
        int sum = 0;
        for (int breath = 1; breath <= BREATHS; breath++) {
            sum += known.landedIn(column, breath);
        }
        return sum;
    }

    public int good(int bird, int k) throws IndexOutOfBoundsException, IllegalArgumentException {
        needBird(bird);
        needWithin(k, 1, BREATHS);
        reckonFates();
        return fates[bird].goods[k];
    }

    public int straight(int bird, boolean breath) throws IndexOutOfBoundsException {
        needBird(bird);
        Feather feather = air.one;
        air.release(feather, bird);
        for (int gone = 0; gone < BREATHS && feather.flies; gone++) {
            air.drift(feather, gone, 0);
        }
        if (feather.landedIn == 0) {
            return NONE;
        }
        return breath ? feather.landedIn : feather.column;
    }

    public int tell(int column, int breath) throws IndexOutOfBoundsException, IllegalArgumentException {
        needColumn(column);
        needWithin(breath, 1, BREATHS);
        reckonFates();
        int bits = 0;
        for (int bird = 0; bird < court.birds; bird++) {
            if (fates[bird].landedIn(column, breath) > 0) {
                bits |= 1 << bird;
            }
        }
        return bits;
    }

    public int alike() {
        reckonFates();
        int pairs = 0;
        for (int bird = 0; bird < court.birds; bird++) {
            for (int other = bird + 1; other < court.birds; other++) {
                if (fates[bird].isAsGoodAs(fates[other])) {
                    pairs++;
                }
            }
        }
        return pairs;
    }

    public int widest(int bird) throws IndexOutOfBoundsException {
        needBird(bird);
        int from = court.from;
        int to = court.to;
        int most = NONE;
        int column = 0;
        for (int shift = 0; shift + to - from < COLUMNS; shift++) {
            court.from = shift;
            court.to = shift + to - from;
            reckoner.reckon(bird, guess);
            int sum = guess.allGood();
            if (sum > most) {
                most = sum;
                column = shift;
            }
        }
        court.from = from;
        court.to = to;
        return column;
    }

    // ---- odds

    public int odds(int bird, int other, int what) throws IndexOutOfBoundsException, NoSuchElementException {
        needBird(bird);
        needBird(other);
        reckonFates();
        switch (what) {
            case 0: return hasIt(bird, other);
            case 1: return hasIt(other, bird);
            case 2: return fates[bird].together(fates[other]);
            case 3: return fates[bird].neither(fates[other]);
            default: throw new NoSuchElementException("there is no such what");
        }
    }

    public int best(int bird, int birds) throws IndexOutOfBoundsException {
        needBird(bird);
        reckonFates();
        int most = NONE;
        int least = NONE;
        for (int own = 0; own < court.birds; own++) {
            if ((birds >> own & 1) == 0) {
                continue;
            }
            int sum = hasIt(own, bird);
            if (sum > most) {
                most = sum;
                least = own;
            }
        }
        return least;
    }

    public int when(int bird, int other) throws IndexOutOfBoundsException {
        needBird(bird);
        needBird(other);
        int now = court.hour;
        int most = NONE;
        int least = 0;
        for (int hour = 0; hour < HOURS; hour++) {
            court.hour = hour;
            reckoner.reckon(bird, guess);
            reckoner.reckon(other, otherGuess);
            int sum = guess.ahead(otherGuess);
            if (sum > most) {
                most = sum;
                least = hour;
            }
        }
        court.hour = now;
        return least;
    }

    /** In how many pairs of rows the feather of the one bird has it against that of the other one. */
    private int hasIt(int bird, int other) {
        return fates[bird].ahead(fates[other]);
    }

    public int surest(int matter, boolean second, boolean much)
            throws IndexOutOfBoundsException, IllegalStateException {
        needOpenCase(matter);
        reckonFates();
        int own = court.bench.choices(matter, second);
        int others = court.bench.choices(matter, !second);
        if (own == 0 || others == 0) {
            return NONE;
        }
        int most = NONE;
        int choice = NONE;
        for (int bird = 0; bird < court.birds; bird++) {
            if ((own >> bird & 1) == 0) {
                continue;
            }
            int sum = atLeast(bird, others);
            if (sum > most) {
                most = sum;
                choice = bird;
            }
        }
        return much ? most : choice;
    }

    /** In how many hundredths a bird has it, whatever of the others it meets. */
    private int atLeast(int bird, int others) {
        int least = PAIRS;
        for (int other = 0; other < court.birds; other++) {
            if ((others >> other & 1) != 0) {
                least = Math.min(least, hasIt(bird, other));
            }
        }
        return (int) (least * 100L / PAIRS);
    }

    public int rests(int matter, boolean first) throws IndexOutOfBoundsException, IllegalStateException {
        needOpenCase(matter);
        reckonFates();
        int own = court.bench.choices(matter, false);
        int others = court.bench.choices(matter, true);
        int pairs = 0;
        int least = NONE;
        for (int bird = 0; bird < court.birds; bird++) {
            for (int other = 0; other < court.birds; other++) {
                boolean chosen = (own >> bird & 1) != 0 && (others >> other & 1) != 0;
                if (chosen && isBestOf(own, bird, other) && isBestOf(others, other, bird)) {
                    least = pairs == 0 ? 10 * bird + other : least;
                    pairs++;
                }
            }
        }
        return first ? least : pairs;
    }

    private boolean isBestOf(int choices, int bird, int other) {
        int sum = hasIt(bird, other);
        for (int turned = 0; turned < court.birds; turned++) {
            if ((choices >> turned & 1) != 0 && hasIt(turned, other) > sum) {
                return false;
            }
        }
        return true;
    }

    public int fair(int matter) throws IndexOutOfBoundsException, IllegalStateException {
        needOpenCase(matter);
        reckonFates();
        int own = court.bench.choices(matter, false);
        int others = court.bench.choices(matter, true);
        int least = PAIRS + 1;
        int pair = NONE;
        for (int bird = 0; bird < court.birds; bird++) {
            for (int other = 0; other < court.birds; other++) {
                if ((own >> bird & 1) == 0 || (others >> other & 1) == 0) {
                    continue;
                }
                int apart = Math.abs(hasIt(bird, other) - hasIt(other, bird));
                if (apart < least) {
                    least = apart;
                    pair = 10 * bird + other;
                }
            }
        }
        return pair;
    }

    // ---- songs

    public int songs(boolean sure) throws IllegalArgumentException {
        int length = useTapeUp();
        needSongs(length);
        int sets = 0;
        int inAll = (1 << court.birds) - 1;
        for (int set = 0; set < 1 << court.birds; set++) {
            if (canHaveSung(set, length)) {
                sets++;
                inAll &= set;
            }
        }
        if (!sure) {
            return sets;
        }
        return sets == 0 ? 0 : inAll;
    }

    public int ask() throws IllegalArgumentException {
        int length = useTapeUp();
        needSongs(length);
        int least = SETS + 1;
        int song = NONE;
        for (int asked = 0; asked < SONGS; asked++) {
            int with = setsThatSing(asked, length, 1);
            int without = setsThatSing(asked, length, 0);
            if (with + without >= 2 && Math.max(with, without) < least) {
                least = Math.max(with, without);
                song = asked;
            }
        }
        return song;
    }

    private int setsThatSing(int song, int length, int heard) {
        int sets = 0;
        for (int set = 0; set < 1 << court.birds; set++) {
            if ((court.tunesOf(set) >> song & 1) == heard && canHaveSung(set, length)) {
                sets++;
            }
        }
        return sets;
    }

    private boolean canHaveSung(int set, int length) {
        int tunes = court.tunesOf(set);
        for (int at = 0; at + 1 < length && at + 1 < TAPE; at += 2) {
            if ((tunes >> tape[at] & 1) != tape[at + 1]) {
                return false;
            }
        }
        return true;
    }

    private void needSongs(int length) {
        boolean fits = length <= 40 && length % 2 == 0;
        for (int at = 0; fits && at + 1 < length; at += 2) {
            fits = tape[at] < SONGS && tape[at + 1] <= 1;
        }
        if (!fits) {
            throw new IllegalArgumentException("the tape tells no songs");
        }
    }

    // ---- stocks and cases

    public int lasts(int counsel, int bird, int n) throws IndexOutOfBoundsException, IllegalArgumentException {
        needCounsel(counsel);
        needBird(bird);
        needWithin(n, 1, STOCK_MOST);
        int held = court.bench.held(counsel, bird);
        for (int week = 0; week <= 99; week++) {
            if (held + week * court.sheds[bird] >= n) {
                return week;
            }
        }
        return NONE;
    }

    public int rich() {
        int most = NONE;
        int richest = NONE;
        for (int counsel = 0; counsel < court.bench.counsels; counsel++) {
            int sum = 0;
            for (int bird = 0; bird < court.birds; bird++) {
                sum += court.bench.held(counsel, bird);
            }
            if (sum > most) {
                most = sum;
                richest = counsel;
            }
        }
        return richest;
    }

    public int won(int counsel, boolean lost) throws IndexOutOfBoundsException {
        needCounsel(counsel);
        Bench bench = court.bench;
        int asFirst = lost ? SECOND : FIRST;
        int asSecond = lost ? FIRST : SECOND;
        int sum = 0;
        for (int matter = 0; matter < bench.cases; matter++) {
            if (bench.firsts[matter] == counsel && bench.ends[matter] == asFirst
                    || bench.seconds[matter] == counsel && bench.ends[matter] == asSecond) {
                sum++;
            }
        }
        return sum;
    }

    public int cover() {
        int fewest = BIRDS + 1;
        int cover = 0;
        for (int set = 0; set < 1 << court.birds; set++) {
            if (Integer.bitCount(set) < fewest && court.bench.isCoveredBy(set)) {
                fewest = Integer.bitCount(set);
                cover = set;
            }
        }
        return cover;
    }

    // ---- trials and the log

    public int trial(int bird, int other, int n) throws IndexOutOfBoundsException, IllegalArgumentException {
        needTrial(bird, other, n);
        return firstHasIt(bird, other, n, court.seed);
    }

    public int span(int bird, int other, int n, boolean most)
            throws IndexOutOfBoundsException, IllegalArgumentException {
        needTrial(bird, other, n);
        int bound = firstHasIt(bird, other, n, 1);
        for (int from = 2; from <= 6; from++) {
            int sum = firstHasIt(bird, other, n, from);
            bound = most ? Math.max(bound, sum) : Math.min(bound, sum);
        }
        return bound;
    }

    private int firstHasIt(int bird, int other, int n, int from) {
        int sum = 0;
        int seed = from;
        for (int i = 0; i < n; i++) {
            air.duel(bird, other, seed);
            seed = air.seed;
            sum += air.ending() == FIRST ? 1 : 0;
        }
        return sum;
    }

    public int led(int bird, boolean has) throws IndexOutOfBoundsException {
        needBird(bird);
        Journal journal = court.journal;
        int rows = 0;
        for (int ago = 0; ago < journal.size; ago++) {
            int end = journal.told(ago, Journal.END);
            boolean asFirst = journal.told(ago, Journal.BIRD) == bird;
            boolean asSecond = journal.told(ago, Journal.OTHER) == bird;
            if (has ? asFirst && end == FIRST || asSecond && end == SECOND : asFirst || asSecond) {
                rows++;
            }
        }
        return rows;
    }

    public int log(int ago, int what) throws NoSuchElementException {
        if (what < 0 || what >= Journal.WIDTH) {
            throw new NoSuchElementException("there is no such what");
        }
        return court.journal.told(ago, what);
    }

    // ---- acts undone, and the image

    public boolean undo() {
        if (pastCount <= 0) {
            return false;
        }
        pastCount--;
        pastNext = (pastNext + ACTS - 1) % ACTS;
        court.copyFrom(past[pastNext]);
        forgetFates();
        return true;
    }

    public void image() {
        imageCourt.copyFrom(court);
        imageLaw.copyFrom(law);
        imageKept = true;
    }

    public boolean back() {
        if (!imageKept) {
            return false;
        }
        court.copyFrom(imageCourt);
        law.copyFrom(imageLaw);
        forgetActs();
        forgetFates();
        return true;
    }

    /** Every act calls this ahead of its first change; the oldest of the remembered ones gives way. */
    private void remember() {
        past[pastNext].copyFrom(court);
        pastNext = (pastNext + 1) % ACTS;
        pastCount = Math.min(ACTS, pastCount + 1);
    }

    private void forgetActs() {
        pastCount = 0;
    }

    /** Fates are kept between calls, so all that changes how feathers fall has to call this. */
    private void forgetFates() {
        fatesKnown = false;
    }

    /** Every call that looks at fates calls this first. */
    private void reckonFates() {
        for (int bird = 0; bird < court.birds && !fatesKnown; bird++) {
            reckoner.reckon(bird, fates[bird]);
        }
        fatesKnown = true;
    }

    // ---- what a call needs

    private void needBird(int bird) {
        if (bird < 0 || bird >= court.birds) {
            throw new IndexOutOfBoundsException("there is no such bird");
        }
    }

    private void needCounsel(int counsel) {
        if (counsel < 0 || counsel >= court.bench.counsels) {
            throw new IndexOutOfBoundsException("there is no such counsel");
        }
    }

    private void needCase(int matter) {
        if (matter < 0 || matter >= court.bench.cases) {
            throw new IndexOutOfBoundsException("there is no such case");
        }
    }

    private void needOpenCase(int matter) {
        needCase(matter);
        if (court.bench.ends[matter] != OPEN) {
            throw new IllegalStateException("it is not open");
        }
    }

    private void needLevel(int level, int lowest) {
        if (level < lowest || level >= LEVELS) {
            throw new IndexOutOfBoundsException("there is no such level");
        }
    }

    private void needColumn(int column) {
        if (column < 0 || column >= COLUMNS) {
            throw new IndexOutOfBoundsException("there is no such column");
        }
    }

    private void needWithin(int n, int low, int high) {
        if (n < low || n > high) {
            throw new IllegalArgumentException("the number is none");
        }
    }

    private void needTrial(int bird, int other, int n) {
        needBird(bird);
        needBird(other);
        needWithin(n, 0, 40);
    }

    /** All that an act can change or a text of the court can tell. */
    private static final class Court {
        int tower = 7;
        int top = 8;
        int from = 5;
        int to = 9;
        int hour = 12;
        int week = 0;
        int seed = 1;
        int texts = 0;
        int birds = 0;
        final int[] winds = new int[LEVELS];
        final int[] falls = new int[BIRDS];
        final int[] lights = new int[BIRDS];
        final int[] tunes = new int[BIRDS];
        final int[] sheds = new int[BIRDS];
        final Bench bench = new Bench();
        final Journal journal = new Journal();

        void copyFrom(Court other) {
            tower = other.tower;
            top = other.top;
            from = other.from;
            to = other.to;
            hour = other.hour;
            week = other.week;
            seed = other.seed;
            texts = other.texts;
            birds = other.birds;
            System.arraycopy(other.winds, 0, winds, 0, LEVELS);
            System.arraycopy(other.falls, 0, falls, 0, BIRDS);
            System.arraycopy(other.lights, 0, lights, 0, BIRDS);
            System.arraycopy(other.tunes, 0, tunes, 0, BIRDS);
            System.arraycopy(other.sheds, 0, sheds, 0, BIRDS);
            bench.copyFrom(other.bench);
            journal.copyFrom(other.journal);
        }

        boolean isCalm() {
            for (int level = 0; level < LEVELS; level++) {
                if (winds[level] != 0) {
                    return false;
                }
            }
            return true;
        }

        boolean isYard(int column) {
            return column >= from && column <= to;
        }

        int tunesOf(int set) {
            int all = 0;
            for (int bird = 0; bird < birds; bird++) {
                if ((set >> bird & 1) != 0) {
                    all |= tunes[bird];
                }
            }
            return all;
        }
    }

    /** The counsel with their stocks, and the cases between them. */
    private static final class Bench {
        int counsels = 0;
        int cases = 0;
        final int[] stocks = new int[COUNSEL * BIRDS];
        final int[] firsts = new int[CASES];
        final int[] seconds = new int[CASES];
        final int[] present = new int[CASES];
        final int[] ends = new int[CASES];

        void copyFrom(Bench other) {
            counsels = other.counsels;
            cases = other.cases;
            System.arraycopy(other.stocks, 0, stocks, 0, stocks.length);
            System.arraycopy(other.firsts, 0, firsts, 0, CASES);
            System.arraycopy(other.seconds, 0, seconds, 0, CASES);
            System.arraycopy(other.present, 0, present, 0, CASES);
            System.arraycopy(other.ends, 0, ends, 0, CASES);
        }

        int held(int counsel, int bird) {
            return stocks[counsel * BIRDS + bird];
        }

        /** How many came: what goes beyond the most that a stock can hold is lost. */
        int add(int counsel, int bird, int n) {
            int was = held(counsel, bird);
            int is = Math.max(0, Math.min(STOCK_MOST, was + n));
            stocks[counsel * BIRDS + bird] = is;
            return is - was;
        }

        int choices(int matter, boolean second) {
            int counsel = second ? seconds[matter] : firsts[matter];
            int bits = 0;
            for (int bird = 0; bird < BIRDS; bird++) {
                if ((present[matter] >> bird & 1) != 0 && held(counsel, bird) > 0) {
                    bits |= 1 << bird;
                }
            }
            return bits;
        }

        int openCases() {
            int bits = 0;
            for (int matter = 0; matter < cases; matter++) {
                if (ends[matter] == OPEN) {
                    bits |= 1 << matter;
                }
            }
            return bits;
        }

        boolean isCoveredBy(int set) {
            for (int matter = 0; matter < cases; matter++) {
                if (ends[matter] == OPEN && (present[matter] & set) == 0) {
                    return false;
                }
            }
            return true;
        }
    }

    /** The latest cases called, in a ring of rows. */
    private static final class Journal {
        static final int WIDTH = 6;
        static final int MOST = 60;
        static final int WEEK = 0;
        static final int CASE = 1;
        static final int BIRD = 2;
        static final int OTHER = 3;
        static final int END = 4;
        static final int BREATH = 5;

        int size = 0;
        int latest = 0;
        final int[] rows = new int[MOST * WIDTH];

        void copyFrom(Journal other) {
            size = other.size;
            latest = other.latest;
            System.arraycopy(other.rows, 0, rows, 0, rows.length);
        }

        void open(int week, int matter) {
            latest = (latest + 1) % MOST;
            size = Math.min(MOST, size + 1);
            rows[latest * WIDTH + WEEK] = week;
            rows[latest * WIDTH + CASE] = matter;
        }

        void write(int bird, int other, int end, int breath) {
            rows[latest * WIDTH + BIRD] = bird;
            rows[latest * WIDTH + OTHER] = other;
            rows[latest * WIDTH + END] = end;
            rows[latest * WIDTH + BREATH] = breath;
        }

        int told(int ago, int what) {
            if (ago < 0 || ago >= size) {
                return NONE;
            }
            return rows[(latest + MOST - ago) % MOST * WIDTH + what];
        }
    }

    /**
     * The law as lines of signs, the operator behind its operands: a number stands for itself, a fact for what
     * is told of the feather. A text has no more things than bytes, so the signs of one always have room.
     */
    private static final class Law {
        static final int LINES = 12;
        static final int DROP = 0;
        static final int LIFT = 1;
        static final int EAST = 2;
        static final int WEST = 3;
        static final int FACTS = 8;
        static final int BIRD = 0;
        static final int LEVEL = 1;
        static final int COLUMN = 2;
        static final int LIGHT = 3;
        static final int HOUR = 4;
        static final int BREATH = 5;
        static final int HIGH = 6;
        static final int OVER = 7;
        static final int PLUS = -9;
        static final int BELOW = -10;
        static final int ABOVE = -11;
        static final int NOT = -12;
        static final int AND = -13;
        static final int OR = -14;

        int lines = NONE;
        int length = 0;
        int down = 0;
        int aside = 0;
        final int[] kinds = new int[LINES];
        final int[] sizes = new int[LINES];
        final int[] begins = new int[LINES];
        final int[] stops = new int[LINES];
        final int[] signs = new int[TAPE];
        final int[] facts = new int[FACTS];
        final int[] stack = new int[32];

        void copyFrom(Law other) {
            lines = other.lines;
            length = other.length;
            System.arraycopy(other.kinds, 0, kinds, 0, LINES);
            System.arraycopy(other.sizes, 0, sizes, 0, LINES);
            System.arraycopy(other.begins, 0, begins, 0, LINES);
            System.arraycopy(other.stops, 0, stops, 0, LINES);
            System.arraycopy(other.signs, 0, signs, 0, length);
        }

        void clear() {
            lines = 0;
            length = 0;
        }

        void openLine(int kind, int size) {
            if (lines < LINES) {
                kinds[lines] = kind;
                sizes[lines] = size;
                begins[lines] = length;
            }
        }

        void closeLine() {
            if (lines < LINES) {
                stops[lines] = length;
                lines++;
            }
        }

        void put(int sign) {
            if (length < TAPE) {
                signs[length] = sign;
                length++;
            }
        }

        void putFact(int fact) {
            put(-1 - fact);
        }

        /** Sums the lines that hold for the facts: how far down, and how far aside. */
        void weigh() {
            down = 0;
            aside = 0;
            for (int line = 0; line < lines && line < LINES; line++) {
                if (!holds(line)) {
                    continue;
                }
                switch (kinds[line]) {
                    case DROP: down += sizes[line]; break;
                    case LIFT: down -= sizes[line]; break;
                    case EAST: aside += sizes[line]; break;
                    default: aside -= sizes[line]; break;
                }
            }
        }

        /** A line without a condition has no signs, and holds. */
        private boolean holds(int line) {
            int depth = 0;
            for (int at = begins[line]; at < stops[line] && at < TAPE; at++) {
                int sign = signs[at];
                if (sign > PLUS && depth < stack.length) {
                    stack[depth] = sign >= 0 ? sign : facts[-1 - sign];
                    depth++;
                } else if (sign == NOT && depth >= 1) {
                    stack[depth - 1] = 1 - stack[depth - 1];
                } else if (depth >= 2) {
                    depth--;
                    stack[depth - 1] = joined(sign, stack[depth - 1], stack[depth]);
                }
            }
            return depth == 0 || stack[0] != 0;
        }

        private static int joined(int sign, int left, int right) {
            switch (sign) {
                case PLUS: return left + right;
                case BELOW: return left < right ? 1 : 0;
                case ABOVE: return left > right ? 1 : 0;
                case AND: return left & right;
                default: return left | right;
            }
        }
    }

    /** One feather that falls. */
    private static final class Feather {
        int bird = 0;
        int level = 0;
        int column = 0;
        boolean flies = false;
        int landedIn = 0;
        int goodIn = 0;
    }

    /** What moves feathers: the court's winds, its law, and gusts by draws. */
    private static final class Air {
        final Court court;
        final Law law;
        final Feather one = new Feather();
        final Feather two = new Feather();
        int sinks = 0;
        int carried = 0;
        int seed = 1;

        Air(Court court, Law law) {
            this.court = court;
            this.law = law;
        }

        void weigh(int bird, int level, int column, int breath) {
            int light = court.lights[bird];
            law.facts[Law.BIRD] = bird;
            law.facts[Law.LEVEL] = level;
            law.facts[Law.COLUMN] = column;
            law.facts[Law.LIGHT] = light;
            law.facts[Law.HOUR] = court.hour;
            law.facts[Law.BREATH] = breath;
            law.facts[Law.HIGH] = level > court.top / 2 ? 1 : 0;
            law.facts[Law.OVER] = court.isYard(column) ? 1 : 0;
            law.weigh();
            sinks = Math.max(0, Math.min(LEVELS - 1, court.falls[bird] + law.down));
            carried = court.winds[level] * light + law.aside;
        }

        void release(Feather feather, int bird) {
            feather.bird = bird;
            feather.level = court.top;
            feather.column = court.tower;
            feather.flies = true;
            feather.landedIn = 0;
            feather.goodIn = 0;
        }

        void drift(Feather feather, int gone, int gust) {
            weigh(feather.bird, feather.level, feather.column, gone);
            feather.level -= sinks;
            feather.column += carried + (court.lights[feather.bird] > 0 ? gust : 0);
            if (feather.column < 0 || feather.column >= COLUMNS) {
                feather.flies = false;
            } else if (feather.level <= 0) {
                feather.flies = false;
                feather.landedIn = gone + 1;
                feather.goodIn = court.isYard(feather.column) ? gone + 1 : 0;
            }
        }

        /** Lets two feathers fall till both are done, by draws from a seed on. */
        void duel(int bird, int other, int from) {
            seed = from;
            release(one, bird);
            release(two, other);
            for (int gone = 0; gone < BREATHS; gone++) {
                if (one.flies) {
                    drift(one, gone, gust());
                }
                if (two.flies) {
                    drift(two, gone, gust());
                }
            }
        }

        private int gust() {
            seed = 1103515245 * seed + 12345;
            return (seed >>> 16 & 32767) % 3 - 1;
        }

        int ending() {
            if (one.goodIn == two.goodIn) {
                return one.goodIn == 0 ? NEVER_MET : MARRIAGE;
            }
            return firstGood() == one.goodIn ? FIRST : SECOND;
        }

        /** The breath in which somebody was good first; 0 if nobody was. */
        int firstGood() {
            if (one.goodIn == 0 || two.goodIn == 0) {
                return Math.max(one.goodIn, two.goodIn);
            }
            return Math.min(one.goodIn, two.goodIn);
        }
    }

    /** In how many rows of gusts what becomes of a bird's feather. */
    private static final class Fates {
        int off = 0;
        int aloft = 0;
        final int[] landed = new int[BREATHS * COLUMNS];
        final int[] goods = new int[BREATHS + 1];

        void clear() {
            off = 0;
            aloft = 0;
            Arrays.fill(landed, 0);
            Arrays.fill(goods, 0);
        }

        void land(int column, int breath, int ways, boolean good) {
            landed[(breath - 1) * COLUMNS + column] += ways;
            goods[breath] += good ? ways : 0;
        }

        int landedIn(int column, int breath) {
            return landed[(breath - 1) * COLUMNS + column];
        }

        int allGood() {
            int sum = 0;
            for (int breath = 1; breath <= BREATHS; breath++) {
                sum += goods[breath];
            }
            return sum;
        }

        /** In how many pairs of rows this one is good in an earlier breath than the other one. */
        int ahead(Fates other) {
            int sum = 0;
            int left = ROWS;
            for (int breath = 1; breath <= BREATHS; breath++) {
                left -= other.goods[breath];
                sum += goods[breath] * left;
            }
            return sum;
        }

        int together(Fates other) {
            int sum = 0;
            for (int breath = 1; breath <= BREATHS; breath++) {
                sum += goods[breath] * other.goods[breath];
            }
            return sum;
        }

        int neither(Fates other) {
            return (ROWS - allGood()) * (ROWS - other.allGood());
        }

        boolean isAsGoodAs(Fates other) {
            for (int breath = 1; breath <= BREATHS; breath++) {
                if (goods[breath] != other.goods[breath]) {
                    return false;
                }
            }
            return true;
        }
    }

    /** Counts fates place by place: rows of gusts that lead to one place at one breath go on alike from there. */
    private static final class Reckoner {
        static final int[] ROWS_LEFT = {6561, 2187, 729, 243, 81, 27, 9, 3, 1};

        final Air air;
        final int[] here = new int[LEVELS * COLUMNS];
        final int[] next = new int[LEVELS * COLUMNS];

        Reckoner(Air air) {
            this.air = air;
        }

        void reckon(int bird, Fates fates) {
            fates.clear();
            Arrays.fill(here, 0);
            here[air.court.top * COLUMNS + air.court.tower] = 1;
            for (int breath = 1; breath <= BREATHS; breath++) {
                Arrays.fill(next, 0);
                for (int place = COLUMNS; place < here.length; place++) {
                    if (here[place] > 0) {
                        spread(bird, place, breath, fates);
                    }
                }
                System.arraycopy(next, 0, here, 0, here.length);
            }
            for (int place = COLUMNS; place < here.length; place++) {
                fates.aloft += here[place];
            }
        }

        private void spread(int bird, int place, int breath, Fates fates) {
            int level = place / COLUMNS;
            int column = place % COLUMNS;
            air.weigh(bird, level, column, breath - 1);
            boolean light = air.court.lights[bird] > 0;
            for (int gust = -1; gust <= 1; gust++) {
                int aside = column + air.carried + (light ? gust : 0);
                settle(level - air.sinks, aside, breath, here[place], fates);
            }
        }

        private void settle(int level, int column, int breath, int ways, Fates fates) {
            if (column < 0 || column >= COLUMNS) {
                fates.off += ways * ROWS_LEFT[breath];
            } else if (level <= 0) {
                fates.land(column, breath, ways * ROWS_LEFT[breath], air.court.isYard(column));
            } else {
                next[level * COLUMNS + column] += ways;
            }
        }
    }

    /** Takes a text apart into words, numbers and signs; a refusal tells the begin of the thing that is next. */
    private static final class Reader {
        static final int DONE = 0;
        static final int WORD = 1;
        static final int NUMBER = 2;
        static final int SIGN = 3;

        final int[] text;
        int length = 0;
        int kind = DONE;
        int begin = 0;
        int stop = 0;
        int value = 0;
        int wrong = NONE;

        Reader(int[] text) {
            this.text = text;
        }

        void open(int upTo) {
            length = Math.max(0, Math.min(upTo, text.length));
            stop = 0;
            wrong = NONE;
            step();
        }

        void step() {
            begin = stop;
            while (begin < length && text[begin] == ' ') {
                begin++;
            }
            stop = begin;
            kind = kindAt(begin);
            if (kind == SIGN) {
                stop++;
            } else if (kind != DONE) {
                while (stop < length && kindAt(stop) == kind) {
                    stop++;
                }
            }
        }

        private int kindAt(int at) {
            if (at >= length) {
                return DONE;
            }
            if (text[at] >= 'a' && text[at] <= 'z') {
                return WORD;
            }
            return text[at] >= '0' && text[at] <= '9' ? NUMBER : SIGN;
        }

        boolean refuse() {
            wrong = begin;
            return false;
        }

        boolean sees(String word) {
            if (kind != WORD || stop - begin != word.length()) {
                return false;
            }
            for (int i = 0; i < word.length(); i++) {
                if (text[begin + i] != word.charAt(i)) {
                    return false;
                }
            }
            return true;
        }

        boolean seesSign(char sign) {
            return kind == SIGN && text[begin] == sign;
        }

        boolean takes(String word) {
            if (!sees(word)) {
                return refuse();
            }
            step();
            return true;
        }

        boolean takesSign(char sign) {
            if (!seesSign(sign)) {
                return refuse();
            }
            step();
            return true;
        }

        boolean takesNumber(int low, int high) {
            if (kind != NUMBER || stop - begin > 3) {
                return refuse();
            }
            int number = 0;
            for (int at = begin; at < stop; at++) {
                number = 10 * number + text[at] - '0';
            }
            if (number < low || number > high) {
                return refuse();
            }
            value = number;
            step();
            return true;
        }

        boolean takesNamed(String word, int low, int high) {
            return takes(word) && takesNumber(low, high);
        }

        /** A word of the first so many letters, none twice: the value is their bits. */
        boolean takesLetters(int letters) {
            if (kind != WORD) {
                return refuse();
            }
            int bits = 0;
            for (int at = begin; at < stop; at++) {
                int letter = text[at] - 'a';
                if (letter >= letters || (bits >> letter & 1) != 0) {
                    return refuse();
                }
                bits |= 1 << letter;
            }
            value = bits;
            step();
            return true;
        }
    }

    /** Reads a text of the court into a draft of it. */
    private static final class CourtText {
        static final int LINES = 14;

        final Reader reader;
        final Court court;

        CourtText(int[] text, Court court) {
            this.reader = new Reader(text);
            this.court = court;
        }

        int read(int length) {
            reader.open(length);
            boolean more = reader.kind != Reader.DONE;
            for (int line = 0; more && line <= LINES; line++) {
                boolean right = line < LINES ? takesLine() : reader.refuse();
                more = right && reader.kind != Reader.DONE && reader.takesSign(';');
            }
            return reader.wrong;
        }

        private boolean takesLine() {
            if (reader.sees("bird")) {
                return takesBird();
            }
            if (reader.sees("counsel")) {
                return takesCounsel();
            }
            if (reader.sees("case")) {
                return takesCase();
            }
            if (reader.sees("tower")) {
                return takesTower();
            }
            if (reader.sees("yard")) {
                return takesYard();
            }
            if (reader.sees("wind")) {
                return takesWind();
            }
            if (!reader.takesNamed("hour", 0, HOURS - 1)) {
                return false;
            }
            court.hour = reader.value;
            return true;
        }

        private boolean takesBird() {
            int bird = court.birds;
            if (bird >= BIRDS) {
                return reader.refuse();
            }
            reader.step();
            if (!reader.takesNamed("falls", 0, 4)) {
                return false;
            }
            court.falls[bird] = reader.value;
            if (!reader.takesNamed("light", 0, 3)) {
                return false;
            }
            court.lights[bird] = reader.value;
            if (!reader.takes("songs") || !reader.takesLetters(SONGS)) {
                return false;
            }
            court.tunes[bird] = reader.value;
            if (!reader.takesNamed("moults", 0, 5)) {
                return false;
            }
            court.sheds[bird] = reader.value;
            court.birds++;
            return true;
        }

        private boolean takesCounsel() {
            Bench bench = court.bench;
            if (bench.counsels >= COUNSEL) {
                return reader.refuse();
            }
            reader.step();
            if (reader.kind != Reader.NUMBER || reader.stop - reader.begin != court.birds) {
                return reader.refuse();
            }
            for (int bird = 0; bird < court.birds; bird++) {
                int figure = reader.text[reader.begin + bird] - '0';
                bench.stocks[bench.counsels * BIRDS + bird] = figure;
            }
            bench.counsels++;
            reader.step();
            return true;
        }

        private boolean takesCase() {
            Bench bench = court.bench;
            int matter = bench.cases;
            if (matter >= CASES) {
                return reader.refuse();
            }
            reader.step();
            if (!reader.takesNumber(0, bench.counsels - 1)) {
                return false;
            }
            bench.firsts[matter] = reader.value;
            int secondAt = reader.begin;
            if (!reader.takesNumber(0, bench.counsels - 1)) {
                return false;
            }
            bench.seconds[matter] = reader.value;
            if (bench.seconds[matter] == bench.firsts[matter]) {
                reader.wrong = secondAt;
                return false;
            }
            if (!reader.takes("present") || !reader.takesLetters(court.birds)) {
                return false;
            }
            bench.present[matter] = reader.value;
            bench.ends[matter] = OPEN;
            bench.cases++;
            return true;
        }

        private boolean takesTower() {
            if (!reader.takesNamed("tower", 0, COLUMNS - 1)) {
                return false;
            }
            court.tower = reader.value;
            if (!reader.takesNamed("top", 1, LEVELS - 1)) {
                return false;
            }
            court.top = reader.value;
            return true;
        }

        private boolean takesYard() {
            if (!reader.takesNamed("yard", 0, COLUMNS - 1)) {
                return false;
            }
            court.from = reader.value;
            if (!reader.takesNamed("to", court.from, COLUMNS - 1)) {
                return false;
            }
            court.to = reader.value;
            return true;
        }

        private boolean takesWind() {
            if (!reader.takesNamed("wind", 0, LEVELS - 1)) {
                return false;
            }
            int level = reader.value;
            boolean west = reader.sees("west");
            if (!reader.takesNamed(west ? "west" : "east", 0, WIND_MOST)) {
                return false;
            }
            court.winds[level] = west ? -reader.value : reader.value;
            return true;
        }
    }

    /** Reads a text of the law into a draft of it. */
    private static final class LawText {
        static final int DEEPEST = 6;

        final Reader reader;
        final Law law;

        LawText(int[] text, Law law) {
            this.reader = new Reader(text);
            this.law = law;
        }

        int read(int length) {
            law.clear();
            reader.open(length);
            boolean more = reader.kind != Reader.DONE;
            for (int line = 0; more && line <= Law.LINES; line++) {
                boolean right = line < Law.LINES ? takesLine() : reader.refuse();
                more = right && reader.kind != Reader.DONE && reader.takesSign(';');
            }
            return reader.wrong;
        }

        private boolean takesLine() {
            int kind = lineKind();
            if (kind == NONE) {
                return reader.refuse();
            }
            reader.step();
            if (!reader.takesNumber(0, 9)) {
                return false;
            }
            law.openLine(kind, reader.value);
            if (reader.sees("if")) {
                reader.step();
                if (!takesEither(0)) {
                    return false;
                }
            }
            law.closeLine();
            return true;
        }

        private int lineKind() {
            if (reader.sees("drop")) {
                return Law.DROP;
            }
            if (reader.sees("lift")) {
                return Law.LIFT;
            }
            if (reader.sees("east")) {
                return Law.EAST;
            }
            return reader.sees("west") ? Law.WEST : NONE;
        }

        private boolean takesEither(int deep) {
            boolean right = takesBoth(deep);
            for (int n = 0; n < TAPE && right && reader.sees("or"); n++) {
                reader.step();
                right = takesBoth(deep);
                law.put(Law.OR);
            }
            return right;
        }

        private boolean takesBoth(int deep) {
            boolean right = takesAtom(deep);
            for (int n = 0; n < TAPE && right && reader.sees("and"); n++) {
                reader.step();
                right = takesAtom(deep);
                law.put(Law.AND);
            }
            return right;
        }

        private boolean takesAtom(int deep) {
            boolean not = reader.sees("not");
            if (not || reader.seesSign('(')) {
                if (deep >= DEEPEST) {
                    return reader.refuse();
                }
                reader.step();
                return not ? takesNot(deep + 1) : takesEither(deep + 1) && reader.takesSign(')');
            }
            if (reader.sees("high") || reader.sees("over")) {
                law.putFact(reader.sees("high") ? Law.HIGH : Law.OVER);
                reader.step();
                return true;
            }
            if (!takesSum()) {
                return false;
            }
            boolean below = reader.seesSign('<');
            if (!reader.takesSign(below ? '<' : '>') || !takesSum()) {
                return false;
            }
            law.put(below ? Law.BELOW : Law.ABOVE);
            return true;
        }

        private boolean takesNot(int deep) {
            if (!takesAtom(deep)) {
                return false;
            }
            law.put(Law.NOT);
            return true;
        }

        private boolean takesSum() {
            for (int parts = 0; parts < TAPE; parts++) {
                int fact = factSeen();
                if (fact != NONE) {
                    law.putFact(fact);
                    reader.step();
                } else if (reader.takesNumber(0, 999)) {
                    law.put(reader.value);
                } else {
                    return false;
                }
                if (parts > 0) {
                    law.put(Law.PLUS);
                }
                if (!reader.seesSign('+')) {
                    return true;
                }
                reader.step();
            }
            return reader.refuse();
        }

        private int factSeen() {
            if (reader.sees("bird")) {
                return Law.BIRD;
            }
            if (reader.sees("level")) {
                return Law.LEVEL;
            }
            if (reader.sees("column")) {
                return Law.COLUMN;
            }
            if (reader.sees("light")) {
                return Law.LIGHT;
            }
            if (reader.sees("hour")) {
                return Law.HOUR;
            }
            return reader.sees("breath") ? Law.BREATH : NONE;
        }
    }
}
