import java.util.Arrays;
import java.util.NoSuchElementException;

/**
 * People who throw eggs to one another over a meadow: the meadow, laws and films are told as
 * texts on a tape, and every question is answered in whole numbers.
 */
public final class EggThrow {
    public static final int NONE = -1;
    public static final int HIDDEN = -1000000;

    private static final int NO_SORT = -2;
    private static final int MOST_BYTES = 160;
    private static final int MOST_PERSONS = 6;
    private static final int MOST_EGGS = 6;
    private static final int MOST_LAWS = 4;
    private static final int MOST_FILMS = 4;
    private static final int MOST_FRAMES = 24;
    private static final int MOST_WITNESSED = 20;
    private static final int MOST_MEASURED = 20;
    private static final int MOST_GAMES = 40;
    private static final int MOST_YARDS = 60;
    private static final int MOST_BOW = 9;
    private static final int MOST_AIM = 5;
    private static final int MOST_RUN = 5;
    private static final int MOST_ARM = 9;
    private static final int MOST_WIND = 9;
    private static final int MOST_OFF = 99;
    private static final int MOST_FORCE = 999;
    private static final int MOST_BEARS = 99;
    private static final int MOST_GOOD = 11;
    private static final int MOST_NESTED = 6;
    private static final int MOST_NUMBER = 1000000;
    private static final int WHOLE = 1000000000;
    private static final int MILLION = 1000000;

    private static final int BLANK = 32;
    private static final int AT_END = 0;

    /* Every item of a meadow's text has one number: 0..3 of m, 4..7 of p, 8..9 of e. */
    private static final int WIND = 0;
    private static final int WIND_END = 1;
    private static final int STEP = 2;
    private static final int FROM = 3;
    private static final int TOLD = 4;
    private static final int SLIP = 0;
    private static final int ARM = 1;
    private static final int RUN = 2;
    private static final int HIGHEST = 3;
    private static final int PERSON_ITEMS = 4;
    private static final int BEARS = 0;
    private static final int CRACKED = 1;
    private static final int EGG_ITEMS = 2;
    private static final int FIRST_PERSON = 4;
    private static final int FIRST_EGG = 28;
    private static final int VALUES = 40;
    private static final int[] ITEM_LETTERS = {'w', 'd', 's', 'f', 'l', 'a', 'r', 'b', 'b', 'c'};
    private static final int[] ITEM_LEAST = {0, 0, 1, 1, 0, 0, 0, 0, 1, 0};
    private static final int[] ITEM_MOST = {9, 1, 9, 60, 5, 9, 5, 9, 99, 1};
    private static final int[] ITEM_USUAL = {0, 0, 2, 4, 1, 3, 1, 5, 30, 0};

    /* A law's signs behind one another, each behind what it joins; numbers stand for themselves. */
    private static final int LETTER_D = -1;
    private static final int LETTER_B = -2;
    private static final int LETTER_A = -3;
    private static final int LETTER_W = -4;
    private static final int LETTER_R = -5;
    private static final int LETTERS = 5;
    private static final int PLUS = -6;
    private static final int MINUS = -7;
    private static final int TIMES = -8;
    private static final int BY = -9;
    private static final int SAME = -10;
    private static final int BELOW = -11;
    private static final int ABOVE = -12;
    private static final int AND = -13;
    private static final int OR = -14;
    private static final int NOT = -15;
    private static final int WHEN = -16;
    private static final int ENDS = -17;
    private static final int MOST_STACKED = 40;

    private final Tape tape;
    private final MeadowReader meadowReader;
    private final LawReader lawReader;
    private final Meadow meadow;
    private final Law[] laws;
    private int lawCount;
    private int lawHeld;
    private final Film[] films;
    private int filmCount;
    private final Book witnessed;
    private final Book measured;
    private final Book games;
    private final Book imageGames;
    private final int[] imageTold;
    private boolean hasImage;
    private final Toss toss;
    private final Bests bests;
    private final Course[] courses;
    private final Search search;

    public EggThrow() {
        tape = new Tape();
        meadowReader = new MeadowReader(tape);
        lawReader = new LawReader(tape);
        meadow = new Meadow();
        laws = new Law[MOST_LAWS];
        lawCount = 0;
        lawHeld = NONE;
        films = new Film[MOST_FILMS];
        filmCount = 0;
        witnessed = new Book(MOST_WITNESSED);
        measured = new Book(MOST_MEASURED);
        games = new Book(MOST_GAMES);
        imageGames = new Book(MOST_GAMES);
        imageTold = new int[TOLD];
        hasImage = false;
        toss = new Toss(meadow);
        bests = new Bests(meadow, toss);
        courses = new Course[MOST_PERSONS / 2];
        for (int i = 0; i < courses.length; i++) {
            courses[i] = new Course(meadow);
        }
        search = new Search();
    }

    // ---- the tape, and what it tells

    public int feed(int a, int b, int c, int d, int e) {
        int more = tape.bytesIn(a) + tape.bytesIn(b) + tape.bytesIn(c) + tape.bytesIn(d) + tape.bytesIn(e);
        if (tape.length() + more > MOST_BYTES) {
            return NONE;
        }
        tape.put(a);
        tape.put(b);
        tape.put(c);
        tape.put(d);
        tape.put(e);
        return tape.length();
    }

    public boolean end(int n) {
        if (n < 0 || n > tape.length()) {
            return false;
        }
        tape.cut(n);
        return true;
    }

    public int fault(int sort) {
        switch (sort) {
            case 0:
                return meadowReader.read();
            case 1:
                return lawReader.read();
            case 2:
                return tape.readFrames();
            default:
                return NO_SORT;
        }
    }

    public int text(int sort) {
        int told;
        switch (sort) {
            case 0:
                told = takeMeadow();
                break;
            case 1:
                told = takeLaw();
                break;
            case 2:
                told = takeFilm();
                break;
            default:
                told = NONE;
                break;
        }
        if (told != NONE) {
            tape.cut(0);
        }
        return told;
    }

    private int takeMeadow() {
        if (meadowReader.read() != NONE) {
            return NONE;
        }
        meadow.take(meadowReader);
        witnessed.clear();
        measured.clear();
        games.clear();
        hasImage = false;
        holdLaw(NONE);
        return meadow.persons();
    }

    private int takeLaw() {
        if (lawCount >= laws.length || lawReader.read() != NONE) {
            return NONE;
        }
        laws[lawCount] = lawReader.made();
        lawCount++;
        return lawCount - 1;
    }

    private int takeFilm() {
        if (filmCount >= films.length || tape.readFrames() != NONE) {
            return NONE;
        }
        films[filmCount] = new Film(tape);
        filmCount++;
        return filmCount - 1;
    }

    // ---- what was told

    public int person(int person, int what) throws NoSuchElementException {
        if (!meadow.isPerson(person) || what < 0 || what >= PERSON_ITEMS) {
            throw new NoSuchElementException("no such person, or no such what");
        }
        return meadow.ofPerson(person, what);
    }

    public int egg(int egg, int what) {
        if (!meadow.isEgg(egg) || what < 0 || what >= EGG_ITEMS) {
            return NONE;
        }
        return meadow.ofEgg(egg, what);
    }

    public boolean law(int law) {
        if (!meadow.isTold() || law < NONE || law >= lawCount) {
            return false;
        }
        holdLaw(law);
        return true;
    }

    private void holdLaw(int law) {
        lawHeld = law;
        toss.obey(lawAt(law));
        bests.forget();
    }

    private Law lawAt(int law) {
        return law < 0 || law >= lawCount || law >= laws.length ? null : laws[law];
    }

    public boolean set(int what, int v) {
        if (!meadow.isTold() || what < 0 || what >= TOLD) {
            return false;
        }
        if (v < ITEM_LEAST[what] || v > ITEM_MOST[what] || v == meadow.told(what)) {
            return false;
        }
        meadow.tell(what, v);
        if (what == WIND || what == WIND_END) {
            bests.forget();
        }
        return true;
    }

    // ---- one throw

    public int off(int by, int end, int bow, int aim, int slip) {
        if (!meadow.isPerson(by) || !isEnd(end) || !isWithin(aim, MOST_AIM)) {
            return HIDDEN;
        }
        if (bow < 0 || bow > meadow.ofPerson(by, HIGHEST) || !isWithin(slip, meadow.ofPerson(by, SLIP))) {
            return HIDDEN;
        }
        return aim + slip + meadow.blows(end, meadow.told(WIND)) * bow / 4;
    }

    public int force(int to, int end, int yards, int bow, int off) {
        if (!meadow.isPerson(to) || !isEnd(end) || !isYards(yards)) {
            return HIDDEN;
        }
        if (bow < 0 || bow > MOST_BOW || !isWithin(off, MOST_OFF)) {
            return HIDDEN;
        }
        toss.receive(to, end);
        return toss.forceBy(lawAt(lawHeld), yards, bow, off);
    }

    public int good(int two, int egg, int yards, int how) {
        if (!isThrow(two, egg, yards) || !isHow(two, how)) {
            return NONE;
        }
        toss.take(two, egg, meadow.told(WIND));
        return goodOf(yards, how);
    }

    public int best(int two, int egg, int yards, int what) {
        if (!isThrow(two, egg, yards) || what < 0 || what > 2) {
            return HIDDEN;
        }
        int best = bests.of(two, egg, yards, meadow.told(WIND));
        if (what == 0) {
            return Toss.bowIn(best);
        }
        return what == 1 ? Toss.aimIn(best) : Toss.goodIn(best);
    }

    public int arms(int two, int egg, int yards, int how, int least) {
        if (!isThrow(two, egg, yards) || !isHow(two, how) || least < 0 || least > MOST_GOOD) {
            return NONE;
        }
        toss.take(two, egg, meadow.told(WIND));
        int bits = 0;
        for (int arm = 0; arm <= MOST_ARM; arm++) {
            toss.useArm(arm);
            if (goodOf(yards, how) >= least) {
                bits |= 1 << arm;
            }
        }
        return bits;
    }

    public int legs(int two, int egg, int yards, int how, int least) {
        if (!isThrow(two, egg, yards) || !isHow(two, how) || least < 0 || least > MOST_GOOD) {
            return NONE;
        }
        toss.take(two, egg, meadow.told(WIND));
        int bits = 0;
        for (int run = 0; run <= MOST_RUN; run++) {
            toss.useRun(run);
            if (goodOf(yards, how) >= least) {
                bits |= 1 << run;
            }
        }
        return bits;
    }

    public int safe(int two, int egg) {
        if (!isCourse(two, egg)) {
            return NONE;
        }
        for (int yards = MOST_YARDS; yards >= 1; yards--) {
            if (isSure(two, egg, yards)) {
                return yards;
            }
        }
        return NONE;
    }

    public int spots(int two, int egg, int yards, int least) {
        if (!isThrow(two, egg, yards) || least < 0 || least > MOST_GOOD) {
            return NONE;
        }
        toss.take(two, egg, meadow.told(WIND));
        int spots = 0;
        for (int bow = 0; bow <= toss.highest(); bow++) {
            int wholes = toss.wholes(yards, bow);
            for (int aim = -MOST_AIM; aim <= MOST_AIM; aim++) {
                if (toss.goodOf(wholes, bow, aim) >= least) {
                    spots++;
                }
            }
        }
        return spots;
    }

    public int spare(int two, int end, int yards) {
        if (!meadow.isPair(two) || !isEnd(end) || !isYards(yards)) {
            return NONE;
        }
        int spare = NONE;
        for (int egg = 0; egg < meadow.eggs(); egg++) {
            if (spare != NONE && meadow.limit(egg) >= meadow.limit(spare)) {
                continue;
            }
            if (isSure(two, 10 * egg + end, yards)) {
                spare = egg;
            }
        }
        return spare;
    }

    public int least(int two, int egg, int yards, int what) {
        if (!isThrow(two, egg, yards) || what < 0 || what > 1) {
            return NONE;
        }
        toss.take(two, egg, meadow.told(WIND));
        int most = what == 0 ? MOST_ARM : MOST_RUN;
        for (int least = 0; least <= most; least++) {
            if (what == 0) {
                toss.useArm(least);
            } else {
                toss.useRun(least);
            }
            if (Toss.goodIn(toss.seek(yards)) == toss.slips()) {
                return least;
            }
        }
        return NONE;
    }

    public int loft(int two, int egg, int yards, int bow, int what) {
        if (!isThrow(two, egg, yards) || what < 0 || what > 1) {
            return HIDDEN;
        }
        toss.take(two, egg, meadow.told(WIND));
        if (bow < 0 || bow > toss.highest()) {
            return HIDDEN;
        }
        int wholes = toss.wholes(yards, bow);
        int most = NONE;
        int nearest = 0;
        for (int i = 0; i <= 2 * MOST_AIM; i++) {
            // 0, -1, 1, -2, 2, ..: the order in which aims that are as good go ahead
            int aim = i % 2 == 0 ? i / 2 : -(i + 1) / 2;
            int good = toss.goodOf(wholes, bow, aim);
            if (good > most) {
                most = good;
                nearest = aim;
            }
        }
        return what == 0 ? nearest : most;
    }

    private int goodOf(int yards, int how) {
        int bow = how / 100;
        return toss.goodOf(toss.wholes(yards, bow), bow, how % 100 - MOST_AIM);
    }

    private boolean isSure(int two, int eggEnd, int yards) {
        int best = bests.of(two, eggEnd, yards, meadow.told(WIND));
        return Toss.goodIn(best) == meadow.slips(two / 10);
    }

    private boolean isHow(int two, int how) {
        return how >= 0 && how % 100 <= 2 * MOST_AIM && how / 100 <= meadow.ofPerson(two / 10, HIGHEST);
    }

    private boolean isThrow(int two, int eggEnd, int yards) {
        return isCourse(two, eggEnd) && isYards(yards);
    }

    private boolean isCourse(int two, int eggEnd) {
        return meadow.isPair(two) && meadow.isEggEnd(eggEnd);
    }

    private static boolean isYards(int yards) {
        return yards >= 1 && yards <= MOST_YARDS;
    }

    private static boolean isEnd(int end) {
        return end == 0 || end == 1;
    }

    private static boolean isWithin(int number, int most) {
        return number >= -most && number <= most;
    }

    private static boolean isEither(int what) {
        return what == 0 || what == 1;
    }

    // ---- a pair that throws to and fro

    public int comes(int two, int egg, int k) {
        if (!isCourse(two, egg) || k < 0) {
            return NONE;
        }
        return goAlong(0, two, egg).comesTo(k);
    }

    public int far(int two, int egg) {
        if (!isCourse(two, egg)) {
            return NONE;
        }
        return goAlong(0, two, egg).reach();
    }

    public long hope(int two, int egg) {
        if (!isCourse(two, egg)) {
            return NONE;
        }
        return goAlong(0, two, egg).hopes();
    }

    public long first(int two, int egg, int what) {
        if (!meadow.isPair(two) || !meadow.isEgg(egg) || !isEither(what)) {
            return NONE;
        }
        int lower = Math.min(two / 10, two % 10);
        int upper = Math.max(two / 10, two % 10);
        long most = NONE;
        int which = 0;
        for (int i = 0; i < 4; i++) {
            int begins = i < 2 ? lower : upper;
            int turn = i < 2 ? 10 * lower + upper : 10 * upper + lower;
            long hopes = goAlong(0, turn, 10 * egg + i % 2).hopes();
            if (hopes > most) {
                most = hopes;
                which = 10 * begins + i % 2;
            }
        }
        return what == 0 ? which : most;
    }

    public long which(int two, int end, int what) {
        if (!meadow.isPair(two) || !isEnd(end) || !isEither(what)) {
            return NONE;
        }
        long most = NONE;
        int which = 0;
        for (int egg = 0; egg < meadow.eggs(); egg++) {
            long hopes = goAlong(0, two, 10 * egg + end).hopes();
            if (hopes > most) {
                most = hopes;
                which = egg;
            }
        }
        return what == 0 ? which : most;
    }

    public long lot(int two, int end) {
        int eggs = meadow.eggs();
        if (!meadow.isPair(two) || !isEnd(end) || eggs <= 0) {
            return NONE;
        }
        long sum = 0;
        for (int egg = 0; egg < eggs; egg++) {
            sum += goAlong(0, two, 10 * egg + end).hopes();
        }
        return sum / eggs;
    }

    public long stride(int two, int egg, int what) {
        if (!isCourse(two, egg) || !isEither(what)) {
            return NONE;
        }
        long most = NONE;
        int which = 0;
        for (int step = ITEM_LEAST[STEP]; step <= ITEM_MOST[STEP]; step++) {
            Course course = courses[0];
            course.fill(bests, two, egg, step, meadow.told(WIND));
            long sum = course.gains();
            if (sum > most) {
                most = sum;
                which = step;
            }
        }
        return what == 0 ? which : most;
    }

    public long calm(int two, int egg, int what) {
        if (!isCourse(two, egg) || !isEither(what)) {
            return NONE;
        }
        long most = NONE;
        int which = 0;
        for (int wind = 0; wind <= MOST_WIND; wind++) {
            long hopes = hopesIn(wind, two, egg);
            if (hopes > most) {
                most = hopes;
                which = wind;
            }
        }
        return what == 0 ? which : most;
    }

    public long gusty(int two, int egg, int g) {
        if (!isCourse(two, egg) || g < 0 || g > MOST_WIND) {
            return NONE;
        }
        long sum = 0;
        for (int wind = 0; wind <= g; wind++) {
            sum += hopesIn(wind, two, egg);
        }
        return sum / (g + 1);
    }

    public int learn(int two, int egg, int k, int parts) {
        if (!isCourse(two, egg) || k < 0 || k > MOST_YARDS || parts < 0 || parts > WHOLE) {
            return NONE;
        }
        if (k == 0 || parts == 0) {
            return 0;
        }
        if (meadow.yardsOf(k, meadow.told(STEP)) > MOST_YARDS) {
            return NONE;
        }
        int wind = meadow.told(WIND);
        for (int i = 1; i <= k; i++) {
            toss.take(Course.twoOf(i, two), Course.eggEndOf(i, egg), wind);
            toss.climbAll(meadow.yardsOf(i, meadow.told(STEP)));
            search.keepClimb(i, toss);
        }
        return search.leastRise(meadow, two, k, parts);
    }

    private Course goAlong(int which, int two, int eggEnd) {
        Course course = courses[which >= 0 && which < courses.length ? which : 0];
        course.fill(bests, two, eggEnd, meadow.told(STEP), meadow.told(WIND));
        return course;
    }

    private long hopesIn(int wind, int two, int eggEnd) {
        courses[0].fill(bests, two, eggEnd, meadow.told(STEP), wind);
        return courses[0].hopes();
    }

    // ---- several pairs

    public long whom(int what) {
        if (!meadow.isTold() || meadow.persons() % 2 != 0 || !isEither(what)) {
            return NONE;
        }
        gatherHopes(0);
        search.pairAll(meadow.persons());
        return what == 0 ? search.digits() : search.hopesTogether();
    }

    public int rank(int egg, int i) {
        if (!meadow.isEgg(egg) || i < 0 || i >= meadow.persons() * (meadow.persons() - 1) / 2) {
            return NONE;
        }
        gatherHopes(egg);
        return search.ranked(meadow.persons(), i);
    }

    private void gatherHopes(int egg) {
        for (int lower = 0; lower < meadow.persons(); lower++) {
            for (int other = lower + 1; other < meadow.persons(); other++) {
                Course course = courses[0];
                course.fill(bests, 10 * lower + other, 10 * egg, meadow.told(STEP), meadow.told(WIND));
                search.keepHope(lower, other, course.hopes());
            }
        }
    }

    public int bold(int one, int other, int eggs, int k, int i) {
        if (!areTwoPairs(one, other, eggs) || k < 1 || k > 9 || i < NONE) {
            return NONE;
        }
        // what the other pair takes away does not hang on the own step: each keeps to its own most
        int ones = boldest(one, eggs / 10, k);
        int others = boldest(other, eggs % 10, k);
        int rests = 0;
        for (int step = 1; step <= 3; step++) {
            for (int second = 1; second <= 3; second++) {
                if ((ones >> step & 1) == 1 && (others >> second & 1) == 1) {
                    if (rests == i) {
                        return 10 * step + second;
                    }
                    rests++;
                }
            }
        }
        return i == NONE ? rests : NONE;
    }

    /** The steps (as bits) by which a pair gains most. */
    private int boldest(int two, int egg, int k) {
        int most = NONE;
        int bits = 0;
        for (int step = 1; step <= 3; step++) {
            courses[0].fill(bests, two, 10 * egg, step, meadow.told(WIND));
            int gain = courses[0].gainOf(k);
            if (gain > most) {
                most = gain;
                bits = 0;
            }
            if (gain == most) {
                bits |= 1 << step;
            }
        }
        return bits;
    }

    public long duel(int one, int other, int eggs, int what) {
        if (!areTwoPairs(one, other, eggs) || !isEither(what)) {
            return NONE;
        }
        Course ones = goAlong(0, one, eggs / 10 * 10);
        Course others = goAlong(1, other, eggs % 10 * 10);
        long sum = 0;
        for (int k = 0; k <= MOST_YARDS; k++) {
            long against = what == 0 ? others.fewerThan(k) : others.just(k);
            sum += ones.just(k) * against / WHOLE;
        }
        return sum;
    }

    private boolean areTwoPairs(int one, int other, int eggs) {
        return meadow.isPair(one) && meadow.isPair(other)
                && eggs >= 0 && meadow.isEgg(eggs / 10) && meadow.isEgg(eggs % 10);
    }

    public int fete(int pairs, long seed, int what) {
        int count = search.readPairs(pairs, meadow.persons());
        if (count == 0 || meadow.eggs() <= 0 || !isEither(what)) {
            return NONE;
        }
        toss.startDraws(seed);
        int left = (1 << count) - 1;
        int last = left;
        int rounds = 0;
        for (int k = 1; k <= MOST_YARDS && Integer.bitCount(left) > 1; k++) {
            int yards = meadow.yardsOf(k, meadow.told(STEP));
            if (yards > MOST_YARDS) {
                break;
            }
            last = left;
            left = throwAll(left, count, k, yards);
            rounds = k;
        }
        return what == 1 ? rounds : search.lowersIn(left != 0 ? left : last);
    }

    /** Of the pairs (bits) that are left, those that catch their k-th throw. */
    private int throwAll(int left, int count, int k, int yards) {
        int caught = 0;
        for (int pair = 0; pair < count; pair++) {
            int two = search.pairOf(pair);
            int eggEnd = 10 * (pair % meadow.eggs());
            if ((left >> pair & 1) == 1 && isCaughtByDraw(two, eggEnd, k, yards)) {
                caught |= 1 << pair;
            }
        }
        return caught;
    }

    public long crown(int pairs, int lower) {
        int count = search.readPairs(pairs, meadow.persons());
        int own = search.pairOfLower(lower, count);
        if (count == 0 || own == NONE || meadow.eggs() <= 0) {
            return NONE;
        }
        for (int pair = 0; pair < count; pair++) {
            goAlong(pair, search.pairOf(pair), 10 * (pair % meadow.eggs()));
        }
        long sum = 0;
        for (int k = 0; k <= MOST_YARDS; k++) {
            sum += crownOf(own, count, k);
        }
        return sum;
    }

    private long crownOf(int own, int count, int k) {
        if (own < 0 || own >= courses.length) {
            return 0;
        }
        long parts = courses[own].just(k);
        for (int pair = 0; pair < count && pair < courses.length; pair++) {
            if (pair != own) {
                parts = parts * courses[pair].fewerThan(k) / WHOLE;
            }
        }
        return parts;
    }

    // ---- rows of eggs and of persons

    public int carton(int two, int end, int n, int what) {
        if (!meadow.isPair(two) || !isEnd(end) || n < 1 || n > meadow.eggs() || !isEither(what)) {
            return NONE;
        }
        int step = meadow.told(STEP);
        if (meadow.yardsOf(n, step) > MOST_YARDS) {
            return NONE;
        }
        for (int k = 1; k <= n; k++) {
            int turn = Course.twoOf(k, two);
            for (int egg = 0; egg < meadow.eggs(); egg++) {
                int eggEnd = Course.eggEndOf(k, 10 * egg + end);
                int best = bests.of(turn, eggEnd, meadow.yardsOf(k, step), meadow.told(WIND));
                search.keepGood(k - 1, egg, Toss.goodIn(best), meadow.slips(turn / 10));
            }
        }
        search.findRow(n, meadow.eggs(), false);
        return what == 0 ? search.digits() : search.parts();
    }

    public int chain(int row, int egg, int yards) {
        int persons = meadow.persons();
        if (!meadow.isEgg(egg) || !isYards(yards) || !search.readRow(row, persons)) {
            return NONE;
        }
        long parts = WHOLE;
        for (int i = 1; i < persons; i++) {
            int by = search.placed(i - 1);
            int best = bests.of(10 * by + search.placed(i), 10 * egg, yards, meadow.told(WIND));
            parts = parts * Toss.goodIn(best) / meadow.slips(by);
        }
        return (int) parts;
    }

    public int row(int egg, int yards, int what) {
        int persons = meadow.persons();
        if (!meadow.isEgg(egg) || !isYards(yards) || !isEither(what)) {
            return NONE;
        }
        for (int by = 0; by < persons; by++) {
            for (int to = 0; to < persons; to++) {
                if (by != to) {
                    int best = bests.of(10 * by + to, 10 * egg, yards, meadow.told(WIND));
                    search.keepGood(by, to, Toss.goodIn(best), meadow.slips(by));
                }
            }
        }
        search.findRow(persons, persons, true);
        return what == 0 ? search.digits() : search.parts();
    }

    // ---- what was seen

    public int witness(int egg, int force, boolean bore) {
        if (!meadow.isEgg(egg) || force < 0 || force > MOST_FORCE || witnessed.isFull()) {
            return NONE;
        }
        witnessed.add(egg, force, bore ? 1 : 0, 0);
        return witnessed.size();
    }

    public int strong(int egg, int what) {
        if (!meadow.isEgg(egg) || what < 0 || what > 2) {
            return HIDDEN;
        }
        int many = 0;
        int lowest = NONE;
        int greatest = NONE;
        for (int bears = 1; bears <= MOST_BEARS; bears++) {
            if (couldBear(egg, bears)) {
                many++;
                lowest = lowest == NONE ? bears : lowest;
                greatest = bears;
            }
        }
        if (what == 0) {
            return many;
        }
        return what == 1 ? lowest : greatest;
    }

    private boolean couldBear(int egg, int bears) {
        int limit = meadow.ofEgg(egg, CRACKED) == 1 ? bears / 2 : bears;
        for (int i = 0; i < witnessed.size(); i++) {
            boolean bore = witnessed.cell(i, 2) == 1;
            if (witnessed.cell(i, 0) == egg && witnessed.cell(i, 1) <= limit != bore) {
                return false;
            }
        }
        return true;
    }

    public int measure(int to, int how, int off, int force) {
        if (!meadow.isPerson(to) || how < 0 || !isYards(how / 100) || !isEnd(how % 10)) {
            return NONE;
        }
        if (!isWithin(off, MOST_OFF) || force < 0 || force > MOST_FORCE || measured.isFull()) {
            return NONE;
        }
        measured.add(to, how, off, force);
        return measured.size();
    }

    public int held() {
        if (!meadow.isTold()) {
            return NONE;
        }
        int bits = isMeasuredBy(null) ? 1 << MOST_LAWS : 0;
        for (int law = 0; law < lawCount; law++) {
            if (isMeasuredBy(lawAt(law))) {
                bits |= 1 << law;
            }
        }
        return bits;
    }

    private boolean isMeasuredBy(Law law) {
        for (int i = 0; i < measured.size(); i++) {
            int how = measured.cell(i, 1);
            toss.receive(measured.cell(i, 0), how % 10);
            int force = toss.forceBy(law, how / 100, how / 10 % 10, measured.cell(i, 2));
            if (force != measured.cell(i, 3)) {
                return false;
            }
        }
        return true;
    }

    // ---- films

    public int film(int film, int what) {
        Film told = filmAt(film);
        if (told == null || !isEither(what)) {
            return NONE;
        }
        return what == 0 ? told.turns() : told.length();
    }

    public int raw(int film, int raws, int part) {
        Film told = filmAt(film);
        if (told == null || raws < 0 || raws > 100 || !isEither(part)) {
            return NONE;
        }
        int above = raws * (told.turns() + 1);
        int below = above + (100 - raws) * (told.length() / 4 + 1);
        int divisor = commonDivisor(above, below);
        if (divisor <= 0) {
            return NONE;
        }
        return (part == 0 ? above : below) / divisor;
    }

    private static int commonDivisor(int one, int other) {
        int a = one;
        int b = other;
        for (int i = 0; i < 64 && b != 0; i++) {
            int rest = a % b;
            a = b;
            b = rest;
        }
        return a;
    }

    public int like(int film, int other) {
        Film one = filmAt(film);
        Film two = filmAt(other);
        if (one == null || two == null) {
            return NONE;
        }
        return one.differsFrom(two);
    }

    private Film filmAt(int film) {
        return film < 0 || film >= filmCount || film >= films.length ? null : films[film];
    }

    // ---- games

    public int game(int two, int egg, long seed) {
        if (!isCourse(two, egg) || games.isFull()) {
            return NONE;
        }
        toss.startDraws(seed);
        int caught = 0;
        for (int k = 1; k <= MOST_YARDS; k++) {
            int yards = meadow.yardsOf(k, meadow.told(STEP));
            if (yards > MOST_YARDS || !isCaughtByDraw(two, egg, k, yards)) {
                break;
            }
            caught = k;
        }
        games.add(two, egg, caught, 0);
        return caught;
    }

    private boolean isCaughtByDraw(int two, int eggEnd, int k, int yards) {
        int turn = Course.twoOf(k, two);
        int egg = Course.eggEndOf(k, eggEnd);
        int best = bests.of(turn, egg, yards, meadow.told(WIND));
        toss.take(turn, egg, meadow.told(WIND));
        return toss.isCaughtByDraw(best, yards);
    }

    public int played(int game, int what) {
        if (game < 0 || game >= games.size() || what < 0 || what > 2) {
            return NONE;
        }
        return games.cell(game, what);
    }

    public int champion() {
        int champion = NONE;
        for (int i = 0; i < games.size(); i++) {
            if (champion == NONE || games.cell(i, 2) > games.cell(champion, 2)) {
                champion = i;
            }
        }
        return champion;
    }

    public int undo() {
        if (games.size() == 0) {
            return NONE;
        }
        games.dropLatest();
        return games.size();
    }

    public int image() {
        if (!meadow.isTold()) {
            return NONE;
        }
        for (int i = 0; i < TOLD; i++) {
            imageTold[i] = meadow.told(i);
        }
        imageGames.copyFrom(games);
        hasImage = true;
        return games.size();
    }

    public int back() {
        if (!hasImage) {
            return NONE;
        }
        for (int i = 0; i < TOLD; i++) {
            meadow.tell(i, imageTold[i]);
        }
        games.copyFrom(imageGames);
        bests.forget();
        return games.size();
    }

    public int count(int what) {
        switch (what) {
            case 0:
                return meadow.persons();
            case 1:
                return meadow.eggs();
            case 2:
                return lawCount;
            case 3:
                return tape.length();
            case 4:
            case 5:
            case 6:
            case 7:
                return meadow.told(what - 4);
            case 8:
                return lawHeld;
            case 9:
                return witnessed.size();
            case 10:
                return games.size();
            case 11:
                return filmCount;
            case 12:
                return measured.size();
            default:
                return HIDDEN;
        }
    }

    /** The bytes told so far, and a finger that goes along them and marks the first wrong one. */
    private static final class Tape {
        private final int[] bytes = new int[MOST_BYTES];
        private int length = 0;
        private int at = 0;
        private int sign = AT_END;
        private int wrongAt = NONE;

        int length() {
            return length;
        }

        int byteAt(int index) {
            return index < 0 || index >= length || index >= bytes.length ? AT_END : bytes[index];
        }

        int bytesIn(int word) {
            int many = 0;
            for (int shift = 24; shift >= 0; shift -= 8) {
                if ((word >>> shift & 255) != 0) {
                    many++;
                }
            }
            return many;
        }

        void put(int word) {
            for (int shift = 24; shift >= 0; shift -= 8) {
                int next = word >>> shift & 255;
                if (next != 0 && length < bytes.length) {
                    bytes[length] = next;
                    length++;
                }
            }
        }

        void cut(int n) {
            length = n;
        }

        void rewind() {
            at = 0;
            wrongAt = NONE;
            settle();
        }

        int wrongAt() {
            return wrongAt;
        }

        /** The sign under the finger; AT_END behind the last one, and once a sign was wrong. */
        int sign() {
            return sign;
        }

        boolean isDigit() {
            return sign >= '0' && sign <= '9';
        }

        void step() {
            at++;
            settle();
        }

        boolean takes(int wanted) {
            if (sign != wanted) {
                return false;
            }
            at++;
            settle();
            return true;
        }

        void need(int wanted) {
            if (sign == wanted) {
                at++;
                settle();
            } else {
                markWrong(at);
            }
        }

        void markWrongHere() {
            markWrong(at);
        }

        /** The first wrong byte counts; the finger goes to the end so that all reading stops. */
        private void markWrong(int index) {
            if (wrongAt == NONE) {
                wrongAt = index;
            }
            at = length;
            sign = AT_END;
        }

        /** Puts the finger on the next sign that is no blank. */
        private void settle() {
            while (at < length && at < bytes.length && bytes[at] == BLANK) {
                at++;
            }
            sign = at < length && at < bytes.length ? bytes[at] : AT_END;
        }

        /** A number of so many digits at most; a digit too many is wrong before its bounds are. */
        int number(int mostDigits, int lowest, int highest) {
            int value = 0;
            int digits = 0;
            int next = byteAt(at);
            for (; digits < mostDigits && next >= '0' && next <= '9'; digits++) {
                value = 10 * value + next - '0';
                at++;
                next = byteAt(at);
            }
            if (digits == 0 || next >= '0' && next <= '9') {
                markWrong(at);
            } else if (value < lowest || value > highest) {
                markWrong(at - 1);
            } else {
                settle();
            }
            return value;
        }

        /** The fault of the tape as a film. */
        int readFrames() {
            rewind();
            int frames = 0;
            for (; frames < MOST_FRAMES && isDigit(); frames++) {
                step();
            }
            if (frames == 0 || sign != AT_END) {
                markWrong(at);
            }
            return wrongAt;
        }
    }

    /** Reads the tape as a meadow. */
    private static final class MeadowReader {
        private final Tape tape;
        private final int[] values = new int[VALUES];
        private int persons = 0;
        private int eggs = 0;
        private boolean hasMeadow = false;

        MeadowReader(Tape tape) {
            this.tape = tape;
        }

        int persons() {
            return persons;
        }

        int eggs() {
            return eggs;
        }

        int value(int index) {
            return index < 0 || index >= values.length ? 0 : values[index];
        }

        int read() {
            persons = 0;
            eggs = 0;
            hasMeadow = false;
            putUsual(0, 0, TOLD);
            tape.rewind();
            readClause();
            for (int i = 0; i < MOST_BYTES && tape.takes(';'); i++) {
                readClause();
            }
            if (tape.sign() != AT_END || persons < 2 || eggs < 1) {
                tape.markWrongHere();
            }
            return tape.wrongAt();
        }

        private void readClause() {
            int sign = tape.sign();
            if (sign == 'm' && !hasMeadow) {
                hasMeadow = true;
                readItems(0, 0, TOLD);
            } else if (sign == 'p' && persons < MOST_PERSONS) {
                readItems(FIRST_PERSON + PERSON_ITEMS * persons, TOLD, PERSON_ITEMS);
                persons++;
            } else if (sign == 'e' && eggs < MOST_EGGS) {
                readItems(FIRST_EGG + EGG_ITEMS * eggs, TOLD + PERSON_ITEMS, EGG_ITEMS);
                eggs++;
            } else {
                tape.markWrongHere();
            }
        }

        private void readItems(int place, int item, int many) {
            putUsual(place, item, many);
            tape.step();
            int used = 0;
            for (int i = 0; i < many; i++) {
                int which = itemUnder(item, many);
                if (which == NONE || (used >> which & 1) == 1) {
                    return;
                }
                used |= 1 << which;
                tape.step();
                keep(place + which, tape.number(2, ITEM_LEAST[item + which], ITEM_MOST[item + which]));
            }
        }

        private int itemUnder(int item, int many) {
            int sign = tape.sign();
            for (int i = 0; i < many && item + i < ITEM_LETTERS.length; i++) {
                if (ITEM_LETTERS[item + i] == sign) {
                    return i;
                }
            }
            return NONE;
        }

        private void putUsual(int place, int item, int many) {
            for (int i = 0; i < many && item + i < ITEM_USUAL.length; i++) {
                keep(place + i, ITEM_USUAL[item + i]);
            }
        }

        private void keep(int place, int value) {
            if (place >= 0 && place < values.length) {
                values[place] = value;
            }
        }
    }

    /** Reads the tape as a law, and puts its signs behind what they join. */
    private static final class LawReader {
        private final Tape tape;
        private final int[] code = new int[MOST_BYTES];
        private int length = 0;

        LawReader(Tape tape) {
            this.tape = tape;
        }

        int read() {
            length = 0;
            tape.rewind();
            readClause();
            for (int i = 0; i < MOST_BYTES && tape.takes(';'); i++) {
                readClause();
            }
            if (tape.sign() != AT_END) {
                tape.markWrongHere();
            }
            return tape.wrongAt();
        }

        Law made() {
            return new Law(code, length);
        }

        private void emit(int sign) {
            if (length < code.length) {
                code[length] = sign;
                length++;
            }
        }

        private void readClause() {
            tape.need('y');
            tape.need(':');
            boolean isSum = tape.sign() != '!' && tape.sign() != '(';
            if (isSum) {
                readSum(0);
            }
            if (!isSum || comparison() != 0) {
                readCondition(0, isSum);
                tape.need('?');
                emit(WHEN);
                readSum(0);
            }
            emit(ENDS);
        }

        /** The sign that joins two sums to a unit; 0 if none is under the finger. */
        private int comparison() {
            switch (tape.sign()) {
                case '=':
                    return SAME;
                case '<':
                    return BELOW;
                case '>':
                    return ABOVE;
                default:
                    return 0;
            }
        }

        /** isBegun: the first sum of its first unit was read already. */
        private void readCondition(int depth, boolean isBegun) {
            readTruth(depth, isBegun);
            for (int i = 0; i < MOST_BYTES && tape.takes('|'); i++) {
                readTruth(depth, false);
                emit(OR);
            }
        }

        private void readTruth(int depth, boolean isBegun) {
            readUnit(depth, isBegun);
            for (int i = 0; i < MOST_BYTES && tape.takes('&'); i++) {
                readUnit(depth, false);
                emit(AND);
            }
        }

        private void readUnit(int depth, boolean isBegun) {
            int sign = tape.sign();
            if (!isBegun && (sign == '!' || sign == '(')) {
                readNested(depth, sign);
                return;
            }
            if (!isBegun) {
                readSum(depth);
            }
            int joint = comparison();
            if (joint == 0) {
                tape.markWrongHere();
                return;
            }
            tape.step();
            readSum(depth);
            emit(joint);
        }

        private void readNested(int depth, int sign) {
            if (depth >= MOST_NESTED) {
                tape.markWrongHere();
                return;
            }
            tape.step();
            if (sign == '!') {
                readUnit(depth + 1, false);
                emit(NOT);
            } else {
                readCondition(depth + 1, false);
                tape.need(')');
            }
        }

        private void readSum(int depth) {
            readTerm(depth);
            for (int i = 0; i < MOST_BYTES; i++) {
                int sign = tape.sign();
                if (sign != '+' && sign != '-') {
                    return;
                }
                tape.step();
                readTerm(depth);
                emit(sign == '+' ? PLUS : MINUS);
            }
        }

        private void readTerm(int depth) {
            readAtom(depth);
            for (int i = 0; i < MOST_BYTES; i++) {
                int sign = tape.sign();
                if (sign != '*' && sign != '/') {
                    return;
                }
                tape.step();
                readAtom(depth);
                emit(sign == '*' ? TIMES : BY);
            }
        }

        private void readAtom(int depth) {
            if (tape.isDigit()) {
                emit(tape.number(4, 0, MOST_NUMBER));
                return;
            }
            int letter = letterUnder();
            if (letter != 0) {
                tape.step();
                emit(letter);
                return;
            }
            if (tape.sign() != '[' || depth >= MOST_NESTED) {
                tape.markWrongHere();
                return;
            }
            tape.step();
            readSum(depth + 1);
            tape.need(']');
        }

        private int letterUnder() {
            switch (tape.sign()) {
                case 'd':
                    return LETTER_D;
                case 'b':
                    return LETTER_B;
                case 'a':
                    return LETTER_A;
                case 'w':
                    return LETTER_W;
                case 'r':
                    return LETTER_R;
                default:
                    return 0;
            }
        }
    }

    /** A law, its signs behind what they join. */
    private static final class Law {
        private final int[] code;
        private final int[] stack = new int[MOST_STACKED];
        private final int[] letters = new int[LETTERS];

        Law(int[] code, int length) {
            this.code = Arrays.copyOf(code, length < 0 || length > code.length ? 0 : length);
        }

        void tell(int yards, int bow, int arm, int blows, int off) {
            letters[-1 - LETTER_D] = yards;
            letters[-1 - LETTER_B] = bow;
            letters[-1 - LETTER_A] = arm;
            letters[-1 - LETTER_W] = blows;
            letters[-1 - LETTER_R] = off;
        }

        /** All in one loop: a throw asks for it so often that no call should stand within. */
        int worth() {
            int[] signs = code;
            int[] row = stack;
            int top = 0;
            for (int i = 0; i < signs.length; i++) {
                int sign = signs[i];
                if (sign >= LETTER_R) {
                    if (top >= row.length) {
                        return 0;
                    }
                    row[top] = sign >= 0 ? sign : letters[-1 - sign];
                    top++;
                } else if (top < 1) {
                    return 0;
                } else if (sign == ENDS) {
                    return row[top - 1];
                } else if (sign == NOT) {
                    row[top - 1] = 1 - row[top - 1];
                } else if (sign == WHEN) {
                    top--;
                    while (row[top] == 0 && i < signs.length && signs[i] != ENDS) {
                        i++;
                    }
                } else if (top < 2) {
                    return 0;
                } else {
                    top--;
                    int left = row[top - 1];
                    int right = row[top];
                    long made;
                    switch (sign) {
                        case PLUS:
                            made = left + right;
                            break;
                        case MINUS:
                            made = left - right;
                            break;
                        case TIMES:
                        case AND:
                            made = (long) left * right;
                            break;
                        case BY:
                            made = right == 0 ? 0 : left / right;
                            break;
                        case SAME:
                            made = left == right ? 1 : 0;
                            break;
                        case BELOW:
                            made = left < right ? 1 : 0;
                            break;
                        case ABOVE:
                            made = left > right ? 1 : 0;
                            break;
                        default:
                            made = left | right;
                            break;
                    }
                    row[top - 1] = made > MOST_NUMBER ? MOST_NUMBER : made < -MOST_NUMBER ? -MOST_NUMBER : (int) made;
                }
            }
            return 0;
        }
    }

    /** A film: how high an egg's side was, frame by frame. */
    private static final class Film {
        private final int[] heights = new int[MOST_FRAMES];
        private final int length;

        /** The tape was read as a film without a fault. */
        Film(Tape tape) {
            int frames = 0;
            for (int i = 0; i < tape.length(); i++) {
                if (tape.byteAt(i) != BLANK && frames < MOST_FRAMES) {
                    heights[frames] = tape.byteAt(i) - '0';
                    frames++;
                }
            }
            length = frames;
        }

        int length() {
            return length;
        }

        int heightAt(int frame) {
            return frame < 0 || frame >= length || frame >= heights.length ? NONE : heights[frame];
        }

        int turns() {
            int turns = 0;
            for (int i = 1; i < length; i++) {
                int rise = heightAt(i) - heightAt(i - 1);
                int onward = heightAfter(i) - heightAt(i);
                if (heightAfter(i) != NONE && (rise > 0 && onward < 0 || rise < 0 && onward > 0)) {
                    turns++;
                }
            }
            return turns;
        }

        /** How high the nearest later frame of another height is; NONE without one. */
        private int heightAfter(int frame) {
            for (int i = frame + 1; i < length; i++) {
                if (heightAt(i) != heightAt(frame)) {
                    return heightAt(i);
                }
            }
            return NONE;
        }

        int differsFrom(Film other) {
            int differing = 0;
            for (int i = 0; i < MOST_FRAMES; i++) {
                if (heightAt(i) != other.heightAt(i)) {
                    differing++;
                }
            }
            return differing;
        }
    }

    /** The meadow that was told; without one it has no persons. */
    private static final class Meadow {
        private final int[] values = new int[VALUES];
        private int persons = 0;
        private int eggs = 0;

        void take(MeadowReader read) {
            for (int i = 0; i < values.length; i++) {
                values[i] = read.value(i);
            }
            persons = read.persons();
            eggs = read.eggs();
        }

        boolean isTold() {
            return persons > 0;
        }

        int persons() {
            return persons;
        }

        int eggs() {
            return eggs;
        }

        int told(int what) {
            return what < 0 || what >= TOLD ? 0 : values[what];
        }

        void tell(int what, int value) {
            if (what >= 0 && what < TOLD) {
                values[what] = value;
            }
        }

        boolean isPerson(int person) {
            return person >= 0 && person < persons;
        }

        boolean isEgg(int egg) {
            return egg >= 0 && egg < eggs;
        }

        boolean isPair(int two) {
            return two >= 0 && two / 10 < persons && two % 10 < persons && two / 10 != two % 10;
        }

        boolean isEggEnd(int code) {
            return code >= 0 && code / 10 < eggs && code % 10 <= 1;
        }

        int ofPerson(int person, int what) {
            int place = FIRST_PERSON + PERSON_ITEMS * person + what;
            return place < 0 || place >= values.length ? 0 : values[place];
        }

        int ofEgg(int egg, int what) {
            int place = FIRST_EGG + EGG_ITEMS * egg + what;
            return place < 0 || place >= values.length ? 0 : values[place];
        }

        /** The greatest force that an egg bears. */
        int limit(int egg) {
            return ofEgg(egg, CRACKED) == 1 ? ofEgg(egg, BEARS) / 2 : ofEgg(egg, BEARS);
        }

        /** How many slips there are of who throws: 1 at least. */
        int slips(int person) {
            int slip = ofPerson(person, SLIP);
            return slip > 0 ? 2 * slip + 1 : 1;
        }

        int blows(int end, int wind) {
            return end == values[WIND_END] ? wind : -wind;
        }

        int yardsOf(int k, int step) {
            return values[FROM] + (k - 1) * step;
        }
    }

    /** One throw: who throws, who catches, the egg, the wind; and the draws of slips. */
    private static final class Toss {
        private final Meadow meadow;
        private final int[] climb = new int[MOST_BOW + 1];
        private Law law = null;
        private int slip = 0;
        private int highest = 0;
        private int arm = 0;
        private int run = 0;
        private int blows = 0;
        private int limit = 0;
        private long drawn = 0;

        Toss(Meadow meadow) {
            this.meadow = meadow;
        }

        void obey(Law held) {
            law = held;
        }

        void take(int two, int eggEnd, int wind) {
            int by = two / 10;
            int to = two % 10;
            slip = meadow.ofPerson(by, SLIP);
            highest = meadow.ofPerson(by, HIGHEST);
            arm = meadow.ofPerson(to, ARM);
            run = meadow.ofPerson(to, RUN);
            blows = meadow.blows(eggEnd % 10, wind);
            limit = meadow.limit(eggEnd / 10);
        }

        /** Only what a force hangs on. */
        void receive(int to, int end) {
            arm = meadow.ofPerson(to, ARM);
            blows = meadow.blows(end, meadow.told(WIND));
        }

        void useArm(int other) {
            arm = other;
        }

        void useRun(int other) {
            run = other;
        }

        int highest() {
            return highest;
        }

        int slips() {
            return 2 * slip + 1;
        }

        int forceBy(Law rule, int yards, int bow, int off) {
            int force;
            if (rule == null) {
                int apart = bow - yards / 4;
                force = 2 * yards + 3 * (apart < 0 ? -apart : apart) - 2 * arm - blows + (off > 0 ? off : -3 * off);
            } else {
                rule.tell(yards, bow, arm, blows, off);
                force = rule.worth();
            }
            if (force < 0) {
                return 0;
            }
            return force > MOST_FORCE ? MOST_FORCE : force;
        }

        /** At which offs (bit off + 5) who catches gets there, and the egg bears it. */
        int wholes(int yards, int bow) {
            int bits = 0;
            for (int off = -run; off <= run; off++) {
                if (forceBy(law, yards, bow, off) <= limit) {
                    bits |= 1 << off + MOST_RUN;
                }
            }
            return bits;
        }

        /** Of how many slips an aim comes down where the egg stays whole. */
        int goodOf(int wholes, int bow, int aim) {
            int lowest = aim + blows * bow / 4 - slip + MOST_RUN;
            int highestBit = lowest + 2 * slip;
            if (highestBit < 0 || lowest > 2 * MOST_RUN) {
                return 0;
            }
            int window = (1 << 2 * slip + 1) - 1;
            return Integer.bitCount(lowest < 0 ? wholes & window >> -lowest : wholes >> lowest & window);
        }

        /** The best bow and aim, with how good they are, in one number that is never 0. */
        int seek(int yards) {
            int most = 0;
            int best = packed(0, -MOST_AIM, 0);
            int enough = slip < run ? 2 * slip + 1 : 2 * run + 1;
            for (int bow = 0; bow <= highest && most < enough; bow++) {
                int wholes = wholes(yards, bow);
                if (Integer.bitCount(wholes) <= most) {
                    continue;
                }
                for (int aim = -MOST_AIM; aim <= MOST_AIM && most < enough; aim++) {
                    int good = goodOf(wholes, bow, aim);
                    if (good > most) {
                        most = good;
                        best = packed(bow, aim, good);
                    }
                }
            }
            return best;
        }

        private static int packed(int bow, int aim, int good) {
            return bow * 10000 + (aim + MOST_AIM + 1) * 100 + good;
        }

        static int bowIn(int packed) {
            return packed / 10000;
        }

        static int aimIn(int packed) {
            return packed / 100 % 100 - MOST_AIM - 1;
        }

        static int goodIn(int packed) {
            return packed % 100;
        }

        /** How good the best throw is if the highest bow were 0, 1, .. 9. */
        void climbAll(int yards) {
            int most = 0;
            for (int bow = 0; bow < climb.length; bow++) {
                int wholes = wholes(yards, bow);
                for (int aim = -MOST_AIM; aim <= MOST_AIM; aim++) {
                    int good = goodOf(wholes, bow, aim);
                    most = good > most ? good : most;
                }
                climb[bow] = most;
            }
        }

        int climbed(int bow) {
            return bow < 0 || bow >= climb.length ? 0 : climb[bow];
        }

        void startDraws(long seed) {
            drawn = seed;
        }

        private int drawSlip() {
            drawn = drawn * 6364136223846793005L + 1442695040888963407L;
            int many = 2 * slip + 1;
            return many <= 0 ? 0 : (int) ((drawn >>> 33) % many) - slip;
        }

        boolean isCaughtByDraw(int best, int yards) {
            int bow = bowIn(best);
            int off = aimIn(best) + drawSlip() + blows * bow / 4;
            return off >= -run && off <= run && forceBy(law, yards, bow, off) <= limit;
        }
    }

    /** The bests that were sought already, till wind or law change. */
    private static final class Bests {
        private final Meadow meadow;
        private final Toss toss;
        private final Known[] known = new Known[MOST_PERSONS * MOST_PERSONS * MOST_EGGS * 2];
        private int era = 1;

        Bests(Meadow meadow, Toss toss) {
            this.meadow = meadow;
            this.toss = toss;
        }

        void forget() {
            era++;
        }

        int of(int two, int eggEnd, int yards, int wind) {
            int[] row = wind == meadow.told(WIND) ? rowOf(two, eggEnd) : null;
            if (row == null || yards < 0 || yards >= row.length) {
                toss.take(two, eggEnd, wind);
                return toss.seek(yards);
            }
            if (row[yards] == 0) {
                toss.take(two, eggEnd, wind);
                row[yards] = toss.seek(yards);
            }
            return row[yards];
        }

        private int[] rowOf(int two, int eggEnd) {
            int slot = ((two / 10 * MOST_PERSONS + two % 10) * MOST_EGGS + eggEnd / 10) * 2 + eggEnd % 10;
            if (slot < 0 || slot >= known.length) {
                return null;
            }
            Known row = known[slot];
            if (row == null) {
                row = new Known(era);
                known[slot] = row;
            }
            return row.bestsIn(era);
        }
    }

    /** The bests of two persons with an egg from an end, by yards; 0 is not sought yet. */
    private static final class Known {
        private final int[] bests = new int[MOST_YARDS + 1];
        private int era;

        Known(int era) {
            this.era = era;
        }

        int[] bestsIn(int now) {
            if (era != now) {
                Arrays.fill(bests, 0);
                era = now;
            }
            return bests;
        }
    }

    /** How far a pair comes: of k throws, in how many parts all are caught. */
    private static final class Course {
        private final Meadow meadow;
        private final int[] comes = new int[MOST_YARDS + 2];
        private int reach = 0;
        private int step = 1;
        private long hopes = 0;

        Course(Meadow meadow) {
            this.meadow = meadow;
        }

        /** Who throws and who catches the k-th time. */
        static int twoOf(int k, int two) {
            return k % 2 == 1 ? two : two % 10 * 10 + two / 10;
        }

        static int eggEndOf(int k, int eggEnd) {
            return k % 2 == 1 ? eggEnd : eggEnd / 10 * 10 + 1 - eggEnd % 10;
        }

        void fill(Bests bests, int two, int eggEnd, int stepBack, int wind) {
            Arrays.fill(comes, 0);
            comes[0] = WHOLE;
            step = stepBack;
            reach = 0;
            hopes = 0;
            long parts = WHOLE;
            for (int k = 1; k <= MOST_YARDS; k++) {
                int yards = meadow.yardsOf(k, step);
                if (yards > MOST_YARDS) {
                    return;
                }
                int turn = twoOf(k, two);
                int best = bests.of(turn, eggEndOf(k, eggEnd), yards, wind);
                parts = parts * Toss.goodIn(best) / meadow.slips(turn / 10);
                if (parts == 0) {
                    return;
                }
                comes[k] = (int) parts;
                hopes += parts;
                reach = k;
            }
        }

        int reach() {
            return reach;
        }

        long hopes() {
            return hopes;
        }

        int comesTo(int k) {
            return k < 0 || k >= comes.length ? 0 : comes[k];
        }

        long just(int k) {
            return comesTo(k) - comesTo(k + 1);
        }

        long fewerThan(int k) {
            return WHOLE - comesTo(k);
        }

        /** Yards of the k-th throw times its parts, by a million. */
        int gainOf(int k) {
            return (int) ((long) meadow.yardsOf(k, step) * comesTo(k) / MILLION);
        }

        long gains() {
            long sum = 0;
            for (int k = 1; k <= reach; k++) {
                sum += gainOf(k);
            }
            return sum;
        }
    }

    /** Rows of four numbers, kept in order, so many at most. */
    private static final class Book {
        private final int[] cells;
        private final int most;
        private int size = 0;

        Book(int most) {
            this.most = most < 0 ? 0 : most;
            cells = new int[4 * this.most];
        }

        int size() {
            return size;
        }

        boolean isFull() {
            return size >= most;
        }

        void add(int a, int b, int c, int d) {
            if (size < most) {
                cells[4 * size] = a;
                cells[4 * size + 1] = b;
                cells[4 * size + 2] = c;
                cells[4 * size + 3] = d;
                size++;
            }
        }

        int cell(int row, int column) {
            return row < 0 || row >= size || column < 0 || column > 3 ? NONE : cells[4 * row + column];
        }

        void dropLatest() {
            if (size > 0) {
                size--;
            }
        }

        void clear() {
            size = 0;
        }

        void copyFrom(Book other) {
            size = 0;
            for (int i = 0; i < other.size(); i++) {
                add(other.cell(i, 0), other.cell(i, 1), other.cell(i, 2), other.cell(i, 3));
            }
        }
    }

    /** Looks through pairings, rows and rises; what it looks through is put into its tables first. */
    private static final class Search {
        private final long[] hopes = new long[MOST_PERSONS * MOST_PERSONS];
        private final int[] partners = new int[MOST_PERSONS];
        private final int[] lowers = new int[MOST_PERSONS];
        private final int[] goods = new int[MOST_PERSONS * MOST_PERSONS];
        private final int[] slips = new int[MOST_PERSONS];
        private final int[] climbs = new int[(MOST_YARDS + 1) * (MOST_BOW + 1)];
        private int places = 0;
        private int choices = 0;
        private boolean isLinked = false;
        private int digits = 0;
        private int parts = 0;
        private long hopesTogether = 0;

        int digits() {
            return digits;
        }

        int parts() {
            return parts;
        }

        long hopesTogether() {
            return hopesTogether;
        }

        void keepHope(int lower, int other, long hope) {
            int place = lower * MOST_PERSONS + other;
            if (place >= 0 && place < hopes.length) {
                hopes[place] = hope;
            }
        }

        /** All persons in pairs so that their hopes together are greatest. */
        void pairAll(int persons) {
            choices = persons < MOST_PERSONS ? persons : MOST_PERSONS;
            hopesTogether = NONE;
            digits = 0;
            pairUp(0, 0);
        }

        /** Rising partners tell rising digits, so the first of several as great is the least. */
        private void pairUp(int used, long sum) {
            int lower = 0;
            while (lower < choices && (used >> lower & 1) == 1) {
                lower++;
            }
            if (lower >= choices) {
                if (sum > hopesTogether) {
                    hopesTogether = sum;
                    digits = partnerDigits();
                }
                return;
            }
            for (int other = lower + 1; other < choices; other++) {
                if ((used >> other & 1) == 0) {
                    partners[lower] = other;
                    partners[other] = lower;
                    pairUp(used | 1 << lower | 1 << other, sum + hopes[lower * MOST_PERSONS + other]);
                }
            }
        }

        private int partnerDigits() {
            int told = 0;
            for (int i = 0; i < choices; i++) {
                told = 10 * told + partners[i];
            }
            return told;
        }

        /** The i-th pair by hope; each pair's rank is how many go ahead of it. */
        int ranked(int persons, int i) {
            for (int lower = 0; lower < persons; lower++) {
                for (int other = lower + 1; other < persons; other++) {
                    if (aheadOf(lower * MOST_PERSONS + other, persons) == i) {
                        return 10 * lower + other;
                    }
                }
            }
            return NONE;
        }

        private int aheadOf(int place, int persons) {
            if (place < 0 || place >= hopes.length) {
                return NONE;
            }
            int ahead = 0;
            for (int lower = 0; lower < persons; lower++) {
                for (int other = lower + 1; other < persons; other++) {
                    int rival = lower * MOST_PERSONS + other;
                    if (rival >= hopes.length) {
                        return NONE;
                    }
                    if (hopes[rival] > hopes[place] || hopes[rival] == hopes[place] && rival < place) {
                        ahead++;
                    }
                }
            }
            return ahead;
        }

        /** Takes apart digits, the first the highest; false if they are not just so many below so many. */
        private boolean readDigits(int told, int[] row, int many) {
            int rest = told;
            for (int i = many - 1; i >= 0; i--) {
                if (i >= row.length || rest < 0 || rest % 10 >= many) {
                    return false;
                }
                row[i] = rest % 10;
                rest /= 10;
            }
            return rest == 0;
        }

        /** How many pairs the digits tell; 0 if they are none. */
        int readPairs(int pairs, int persons) {
            if (persons <= 0 || persons > partners.length || !readDigits(pairs, partners, persons)) {
                return 0;
            }
            int count = 0;
            for (int i = 0; i < persons; i++) {
                int partner = partners[i];
                if (partner == i || partners[partner] != i) {
                    return 0;
                }
                if (i < partner && count < lowers.length) {
                    lowers[count] = i;
                    count++;
                }
            }
            return count;
        }

        int pairOf(int pair) {
            return pair < 0 || pair >= lowers.length ? 0 : 10 * lowers[pair] + partners[lowers[pair]];
        }

        int pairOfLower(int lower, int count) {
            for (int pair = 0; pair < count && pair < lowers.length; pair++) {
                if (lowers[pair] == lower) {
                    return pair;
                }
            }
            return NONE;
        }

        /** Bits of pairs as bits of their lower persons. */
        int lowersIn(int pairs) {
            int bits = 0;
            for (int pair = 0; pair < lowers.length; pair++) {
                if ((pairs >> pair & 1) == 1) {
                    bits |= 1 << lowers[pair];
                }
            }
            return bits;
        }

        boolean readRow(int row, int persons) {
            if (persons <= 0 || persons > partners.length || !readDigits(row, partners, persons)) {
                return false;
            }
            int used = 0;
            for (int i = 0; i < persons; i++) {
                used |= 1 << partners[i];
            }
            return used == (1 << persons) - 1;
        }

        int placed(int place) {
            return place < 0 || place >= partners.length ? 0 : partners[place];
        }

        void keepGood(int ahead, int choice, int good, int of) {
            int place = ahead * MOST_PERSONS + choice;
            if (place >= 0 && place < goods.length && ahead < slips.length) {
                goods[place] = good;
                slips[ahead] = of;
            }
        }

        /**
         * The row with the most parts. Linked: a choice's good hangs on the choice ahead of it
         * (from hand to hand), else on its place (throw by throw).
         */
        void findRow(int many, int from, boolean linked) {
            places = many;
            choices = from;
            isLinked = linked;
            parts = NONE;
            digits = 0;
            place(0, 0, 0, WHOLE);
        }

        /** Rising choices tell rising digits; parts never grow, so a row no better is left. */
        private void place(int position, int used, int told, int left) {
            if (left <= parts) {
                return;
            }
            if (position >= places) {
                parts = left;
                digits = told;
                return;
            }
            int ahead = isLinked ? told % 10 : position;
            for (int choice = 0; choice < choices; choice++) {
                if ((used >> choice & 1) == 0) {
                    boolean isFree = isLinked && position == 0;
                    place(position + 1, used | 1 << choice, 10 * told + choice, isFree ? left : share(left, ahead, choice));
                }
            }
        }

        private int share(int left, int ahead, int choice) {
            int at = ahead * MOST_PERSONS + choice;
            if (ahead < 0 || ahead >= slips.length || at >= goods.length || slips[ahead] <= 0) {
                return 0;
            }
            return (int) ((long) left * goods[at] / slips[ahead]);
        }

        /** Keeps how good the k-th throw is by each highest bow. */
        void keepClimb(int k, Toss toss) {
            for (int bow = 0; bow <= MOST_BOW; bow++) {
                int at = k * (MOST_BOW + 1) + bow;
                if (at >= 0 && at < climbs.length) {
                    climbs[at] = toss.climbed(bow);
                }
            }
        }

        /** The least rise of both highest bows (first's and other's as digits) by which parts are reached. */
        int leastRise(Meadow meadow, int two, int k, int needed) {
            int first = meadow.ofPerson(two / 10, HIGHEST);
            int other = meadow.ofPerson(two % 10, HIGHEST);
            for (int together = 0; together <= 2 * MOST_BOW; together++) {
                for (int rise = 0; rise <= together; rise++) {
                    int bow = first + rise;
                    int otherBow = other + together - rise;
                    if (bow <= MOST_BOW && otherBow <= MOST_BOW && reaches(meadow, two, 100 * bow + otherBow, k, needed)) {
                        return 10 * rise + together - rise;
                    }
                }
            }
            return NONE;
        }

        private boolean reaches(Meadow meadow, int two, int bows, int k, int needed) {
            long left = WHOLE;
            for (int i = 1; i <= k && left >= needed; i++) {
                boolean isFirst = i % 2 == 1;
                int at = i * (MOST_BOW + 1) + (isFirst ? bows / 100 : bows % 100);
                int of = meadow.slips(isFirst ? two / 10 : two % 10);
                left = at < 0 || at >= climbs.length ? 0 : left * climbs[at] / of;
            }
            return left >= needed;
        }
    }
}
