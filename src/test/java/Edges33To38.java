/** The boundaries of promises 33 to 38: films, fetes, crowns and cartons. */
final class Edges33To38 {
    private static final int NONE = Edges.NONE;
    private static final int WHOLE = Edges.WHOLE;
    private static final int[] NO_FILM = {-1, 2, 3, 4, Edges.LOWEST, Edges.HIGHEST};
    private static final int[] NO_PAIRS = {0, 1, 10, 32, 1023, 123, 1302, 2310, 3201, 1033, 1132, 4321, 1042, 5032, 9032,
        11032, 10320, 103254, 21032, -1, -1032, Edges.LOWEST, Edges.HIGHEST, 10032, 1000, 3333};
    private static final int[] LAST_PAIRS = {1032, 2301, 3210};

    private Edges33To38() {
    }

    static void hold() {
        turnsOfFilms();
        flatTurns();
        filmsRefused();
        raws();
        rawsRefused();
        likes();
        feteRounds();
        feteEnds();
        feteEggs();
        feteDraws();
        feteRefused();
        crowns();
        crownsRefused();
        cartonsOfSeveral();
        cartonsTillSixty();
        cartonsRefused();
    }

    private static EggThrow films(String... texts) {
        EggThrow x = new EggThrow();
        for (String text : texts) {
            Edges.tell(x, 2, text);
        }
        return x;
    }

    // ---- 33

    private static void turnsAre(String text, int turns) {
        EggThrow x = films(text);
        Edges.due("turns of " + text, x.film(0, 0), turns);
        Edges.due("length of " + text, x.film(0, 1), text.replace(" ", "").length());
    }

    private static void turnsOfFilms() {
        Edges.sentence(33, "frames behind the first and ahead of the last that are higher than");
        turnsAre("5", 0);
        turnsAre("12", 0);
        turnsAre("21", 0);
        turnsAre("121", 1);
        turnsAre("212", 1);
        turnsAre("123", 0);
        turnsAre("321", 0);
        turnsAre("010", 1);
        turnsAre("909", 1);
        turnsAre("1212", 2);
        turnsAre("1 3 2 4", 2);
        Edges.sentence(33, "or lower than both");
        turnsAre("101", 1);
        turnsAre("989", 1);
        turnsAre("10101", 3);
        turnsAre("3 1 2", 1);
        turnsAre("312321", 2);
        Edges.sentence(33, "frames behind the first and ahead of the last");
        turnsAre("121212121212121212121212", 22);
        turnsAre("12121212121212121212121", 21);
        turnsAre("000000000000000000000000", 0);
        turnsAre("012345678987654321012345", 2);
    }

    private static void flatTurns() {
        Edges.sentence(33, "of frames alike side by side the first alone");
        turnsAre("11", 0);
        turnsAre("111", 0);
        turnsAre("1221", 1);
        turnsAre("2112", 1);
        turnsAre("12221", 1);
        turnsAre("122222222222222222222221", 1);
        turnsAre("1122112211", 3);
        Edges.sentence(33, "the nearest frame ahead that is of another height, and than the nearest one behind that is");
        turnsAre("1223", 0);
        turnsAre("3221", 0);
        turnsAre("1122", 0);
        turnsAre("112", 0);
        turnsAre("122", 0);
        turnsAre("221", 0);
        turnsAre("211", 0);
        turnsAre("1211", 1);
        turnsAre("1121", 1);
        turnsAre("12211", 1);
        turnsAre("100000000000000000000001", 1);
        turnsAre("110000000000000000000011", 1);
        turnsAre("100000000000000000000000", 0);
    }

    private static final Edges.Base TWO_FILMS = () -> films("1213", "33 2245");

    private static void filmsRefused() {
        Edges.sentence(33, "TURNS of a FILM (0), its LENGTH (1).");
        turnsAre("777777777777777777777777", 0);
        Edges.due("the last of four", films("1", "12", "121", "1212").film(3, 0), 2);
        Edges.due("the last of four", films("1", "12", "121", "1212").film(3, 1), 4);
        Edges.sentence(33, "NONE: no such ones.");
        Edges.refused(Edges.RICH, NONE, NO_FILM, (x, v) -> x.film(v, 0));
        Edges.refused(TWO_FILMS, NONE, NO_FILM, (x, v) -> x.film(v, 1));
        Edges.refused(EggThrow::new, NONE, new int[] {0, 1}, (x, v) -> x.film(v, 0));
        Edges.refused(Edges.FULL, NONE, new int[] {-1, 4, 5}, (x, v) -> x.film(v, 0));
        Edges.taken(Edges.FULL, NONE, new int[] {0, 3}, (x, v) -> x.film(v, 0));
        Edges.taken(TWO_FILMS, NONE, new int[] {0, 1}, (x, v) -> x.film(v, 0));
        Edges.refused(Edges.RICH, NONE, Edges.NO_WHAT, (x, v) -> x.film(0, v));
        Edges.taken(Edges.RICH, NONE, Edges.BOTH_WHATS, (x, v) -> x.film(1, v));
    }

    // ---- 34

    private static int common(int a, int b) {
        return b == 0 ? a : common(b, a % b);
    }

    private static void raws() {
        Edges.sentence(34, "of 100 eggs so many are (0 .. 100)");
        String[] told = {"5", "121", "1213", "121212121212121212121212"};
        int[] turns = {0, 1, 2, 22};
        int[] quarters = {0, 0, 1, 6};
        EggThrow x = films(told);
        EggThrow y = films(told);
        for (int film = 0; film < 4; film++) {
            for (int raw = 0; raw <= 100; raw += raw < 3 || raw > 96 ? 1 : 7) {
                int one = raw * (turns[film] + 1);
                int both = one + (100 - raw) * (quarters[film] + 1);
                int by = common(one, both);
                Edges.due(told[film] + ", above of " + raw, x.raw(film, raw, 0), one / by);
                Edges.due(told[film] + ", below of " + raw, y.raw(film, raw, 1), both / by);
            }
        }
        Edges.sentence(34, "a fraction made plain (0 by 1, if it is 0)");
        for (int film = 0; film < 4; film++) {
            Edges.due("0", x.raw(film, 0, 0), 0);
            Edges.due("by 1", x.raw(film, 0, 1), 1);
            Edges.due("1", x.raw(film, 100, 0), 1);
            Edges.due("by 1", x.raw(film, 100, 1), 1);
        }
        Edges.due("a half", x.raw(0, 50, 0), 1);
        Edges.due("of a half", x.raw(0, 50, 1), 2);
        Edges.due("99 of 100", x.raw(0, 99, 0), 99);
        Edges.due("99 of 100", x.raw(0, 99, 1), 100);
        Edges.sentence(34, "how many are not times LENGTH of the FILM by 4 (cut) and 1 the other");
        EggThrow z = films("111", "1111", "1111111", "11111111");
        int[] below = {2, 3, 3, 4};
        for (int film = 0; film < 4; film++) {
            Edges.due("a half of film " + film, z.raw(film, 50, 1), below[film]);
        }
    }

    private static void rawsRefused() {
        Edges.sentence(34, "NONE: no such ones");
        Edges.refused(Edges.RICH, NONE, NO_FILM, (x, v) -> x.raw(v, 50, 0));
        Edges.refused(EggThrow::new, NONE, new int[] {0, 1}, (x, v) -> x.raw(v, 50, 0));
        Edges.refused(Edges.FULL, NONE, new int[] {-1, 4, 5}, (x, v) -> x.raw(v, 50, 1));
        Edges.taken(Edges.FULL, NONE, new int[] {0, 3}, (x, v) -> x.raw(v, 50, 0));
        Edges.refused(Edges.RICH, NONE, Edges.NO_WHAT, (x, v) -> x.raw(0, 50, v));
        Edges.taken(Edges.RICH, NONE, Edges.BOTH_WHATS, (x, v) -> x.raw(1, 50, v));
        Edges.taken(TWO_FILMS, NONE, Edges.BOTH_WHATS, (x, v) -> x.raw(1, 50, v));
        Edges.sentence(34, "out of bounds");
        Edges.refused(Edges.RICH, NONE, new int[] {-1, 101, Edges.LOWEST, Edges.HIGHEST}, (x, v) -> x.raw(0, v, 0));
        Edges.taken(Edges.RICH, NONE, new int[] {0, 100}, (x, v) -> x.raw(0, v, 0));
    }

    // ---- 35

    private static void likes() {
        Edges.sentence(35, "of two FILMS at how many frames they differ (frames that just one has, too)");
        String most = "121212121212121212121212";
        EggThrow x = films("1", most, "212121212121212121212121", "2");
        int[][] due = {{0, 23, 24, 1}, {23, 0, 24, 24}, {24, 24, 0, 23}, {1, 24, 23, 0}};
        for (int i = 0; i < 4; i++) {
            for (int j = 0; j < 4; j++) {
                Edges.due(i + " and " + j, x.like(i, j), due[i][j]);
            }
        }
        EggThrow y = films("0", "000", "0 1 0", "0");
        Edges.due("a frame of height 0 is one", y.like(0, 1), 2);
        Edges.due("and is one", y.like(1, 0), 2);
        Edges.due("the middle one", y.like(1, 2), 1);
        Edges.due("another film that is alike", y.like(0, 3), 0);
        EggThrow longer = films("1", "12", "123", "1230");
        for (int i = 0; i < 4; i++) {
            for (int j = 0; j < 4; j++) {
                Edges.due("frames that just one has", longer.like(i, j), Math.abs(i - j));
            }
        }
        Edges.sentence(35, "NONE: no such FILMS.");
        Edges.refused(Edges.RICH, NONE, NO_FILM, (z, v) -> z.like(v, 0));
        Edges.refused(Edges.RICH, NONE, NO_FILM, (z, v) -> z.like(0, v));
        Edges.refused(Edges.RICH, NONE, NO_FILM, (z, v) -> z.like(v, v));
        Edges.refused(EggThrow::new, NONE, new int[] {0, 1}, (z, v) -> z.like(v, v));
        Edges.taken(Edges.FULL, NONE, new int[] {0, 3}, (z, v) -> z.like(v, 3 - v));
        Edges.refused(Edges.FULL, NONE, new int[] {-1, 4}, (z, v) -> z.like(v, 0));
        Edges.refused(Edges.FULL, NONE, new int[] {-1, 4}, (z, v) -> z.like(0, v));
        Edges.taken(TWO_FILMS, NONE, new int[] {0, 1}, (z, v) -> z.like(v, 1));
    }

    // ---- 36

    private static void feteIs(EggThrow x, int pairs, int winners, int rounds) {
        Edges.due("winners of " + pairs, x.fete(pairs, 7, 0), winners);
        Edges.due("rounds of " + pairs, x.fete(pairs, 7, 1), rounds);
    }

    private static void feteRounds() {
        Edges.sentence(36, "(with one PAIR alone at once)");
        feteIs(Edges.meadow("p;p;e", "y:0"), 10, 1, 0);
        feteIs(Edges.meadow("p;p;e", "y:99"), 10, 1, 0);
        feteIs(Edges.meadow("mf60;p;p;e", "y:0"), 10, 1, 0);
        Edges.sentence(36, "or 60 YARDS would be passed");
        feteIs(Edges.meadow("mf60;p;p;p;p;e", "y:0"), 1032, 5, 1);
        feteIs(Edges.meadow("mf58;p;p;p;p;e", "y:0"), 1032, 5, 2);
        feteIs(Edges.meadow("mf59;p;p;p;p;e", "y:0"), 1032, 5, 1);
        feteIs(Edges.meadow("mf1s1;p;p;p;p;e", "y:0"), 2301, 3, 60);
        feteIs(Edges.meadow("mf6s9;p;p;p;p;p;p;e", "y:0"), 345012, 7, 7);
        feteIs(Edges.meadow("mf7s9;p;p;p;p;p;p;e", "y:0"), 543210, 7, 6);
        feteIs(Edges.meadow("mf7s9;p;p;p;p;p;p;e", "y:0"), 103254, 21, 6);
    }

    private static void feteEnds() {
        Edges.sentence(36, "it ends as none, or one alone, is left");
        EggThrow x = Edges.meadow("p;p;p;p;p;p;e;eb40;eb50", "y:d=4?20;y:d=6?35;y:d=8?45;y:99");
        feteIs(x, 103254, 16, 3);
        feteIs(Edges.meadow("p;p;p;p;eb1;eb2", "y:2"), 1032, 4, 1);
        feteIs(Edges.meadow("p;p;p;p;eb2;eb1", "y:2"), 1032, 1, 1);
        feteIs(Edges.meadow("p;p;p;p;eb2;eb1", "y:2"), 2301, 1, 1);
        feteIs(Edges.meadow("p;p;p;p;eb1;eb2", "y:2"), 3210, 2, 1);
        Edges.sentence(36, "who is left; if none is, those who went out last; in how many rounds");
        feteIs(Edges.meadow("p;p;p;p;e", "y:99"), 1032, 5, 1);
        feteIs(Edges.meadow("p;p;p;p;p;p;e", "y:99"), 103254, 21, 1);
        EggThrow y = Edges.meadow("p;p;p;p;p;p;eb2;eb1", "y:d=4?2;y:99");
        feteIs(y, 103254, 1 | 16, 2);
        feteIs(Edges.meadow("p;p;p;p;p;p;eb1;eb2;eb2", "y:d=4?2;y:99"), 103254, 4 | 16, 2);
        feteIs(Edges.meadow("p;p;p;p;p;p;eb2", "y:d<8?2;y:99"), 543210, 7, 3);
    }

    private static void feteEggs() {
        Edges.sentence(36, "PAIR j (0 ..) with EGG j modulo EGGS, the lower one first from END 0");
        feteIs(Edges.meadow("p;p;p;p;p;p;eb1;eb9", "y:9"), 103254, 4, 1);
        feteIs(Edges.meadow("p;p;p;p;p;p;eb9;eb1", "y:d=4?9;y:99"), 103254, 17, 2);
        feteIs(Edges.meadow("p;p;p;p;p;p;eb1;eb1;eb9", "y:9"), 103254, 16, 1);
        feteIs(Edges.meadow("p;p;p;p;p;p;eb1;eb1;eb9;e;e;e", "y:9"), 103254, 16, 1);
        feteIs(Edges.meadow("p;p;p;p;p;p;eb1;eb1;eb1;e;e;e", "y:9"), 103254, 21, 1);
        EggThrow ends = Edges.meadow("mf60w1;p;pa1;p;pa2;e", "y:w=1&a=1?0;y:w=0-1&a=2?0;y:99");
        feteIs(ends, 1032, 1, 1);
        ends.set(1, 1);
        feteIs(ends, 1032, 4, 1);
        feteIs(Edges.meadow("mf60;pa1;pa9;pa9;pa1;e", "y:a*9"), 1032, 4, 1);
        feteIs(Edges.meadow("mf60w1;p;p;p;p;p;p;eb1;eb1;eb50", "y:w=1?50;y:99"), 103254, 16, 1);
        feteIs(Edges.meadow("mf60w1;p;p;p;p;p;p;eb1;eb50;eb1", "y:w=1?50;y:99"), 103254, 4, 1);
        feteIs(Edges.meadow("mf60w1d1;p;p;p;p;p;p;eb1;eb1;eb50", "y:w=1?50;y:99"), 103254, 21, 1);
    }

    /** Who throws with SLIP s aims at OFF 0 by the slip s, the last one: caught by the draw 2 s alone. */
    private static int[] feted(int[] slips, int[] pairs, long seed, int rounds) {
        Draws draws = new Draws(seed);
        int left = (1 << pairs.length) - 1;
        int last = left;
        int k = 0;
        while (Integer.bitCount(left) > 1 && k < rounds) {
            k++;
            last = left;
            for (int pair = 0; pair < pairs.length; pair++) {
                int slip = slips[k % 2 == 1 ? pairs[pair] / 10 : pairs[pair] % 10];
                if ((last >> pair & 1) == 1 && draws.below(2 * slip + 1) != 2 * slip) {
                    left &= ~(1 << pair);
                }
            }
        }
        int winners = 0;
        for (int pair = 0; pair < pairs.length; pair++) {
            winners |= ((left == 0 ? last : left) >> pair & 1) << pairs[pair] / 10;
        }
        return new int[] {winners, k};
    }

    private static void feteDraws() {
        Edges.sentence(36, "All throw their k-th THROW by a seed, one PAIR behind the other, as in a GAME");
        int[] slips = {0, 1, 1, 0, 0, 1};
        int[] sixth = {5, 14, 23};
        int[] second = {1, 23, 45};
        EggThrow x = Edges.meadow("pl0;pl1;pl1;pl0;pl0;pl1;e", Edges14To21.THIRDS);
        EggThrow y = Edges.meadow("pl0;pl1;pl1;pl0;pl0;pl1;e", Edges14To21.THIRDS);
        for (int i = 0; i < 100; i++) {
            long seed = i < Draws.SEEDS.length ? Draws.SEEDS[i] : i * 7919L;
            int[] due = feted(slips, sixth, seed, 29);
            Edges.due("winners by " + seed, x.fete(543210, seed, 0), due[0]);
            Edges.due("rounds by " + seed, x.fete(543210, seed, 1), due[1]);
            due = feted(slips, second, seed, 29);
            Edges.due("winners by " + seed, y.fete(103254, seed, 0), due[0]);
            Edges.due("rounds by " + seed, y.fete(103254, seed, 1), due[1]);
        }
        Edges.due("no game was put by", x.count(10), 0);
    }

    private static void feteRefused() {
        Edges.sentence(36, "NONE: no such PAIRS");
        Edges.refused(Edges.RICH, NONE, NO_PAIRS, (x, v) -> x.fete(v, 1, 0));
        Edges.taken(Edges.RICH, NONE, LAST_PAIRS, (x, v) -> x.fete(v, 1, 0));
        Edges.refused(Edges.BARE, NONE, new int[] {0, 1, 10, 1032}, (x, v) -> x.fete(v, 1, 0));
        Edges.refused(Edges.ODD, NONE, new int[] {10, 102, 12, 120, 201, 210, 1032}, (x, v) -> x.fete(v, 1, 0));
        Edges.refused(Edges.of("p;p;e"), NONE, new int[] {0, 1, 11, 110, 21, 1032}, (x, v) -> x.fete(v, 1, 0));
        Edges.refused(Edges.FULL, NONE, new int[] {10, 1032, 103255, 123450, 501234, 1103254, 103264, 54321, 543211},
                (x, v) -> x.fete(v, 1, 0));
        Edges.taken(Edges.FULL, NONE, new int[] {103254, 543210}, (x, v) -> x.fete(v, 1, 1));
        Edges.sentence(36, "no such what");
        Edges.refused(Edges.RICH, NONE, Edges.NO_WHAT, (x, v) -> x.fete(1032, 1, v));
        Edges.taken(Edges.RICH, NONE, Edges.BOTH_WHATS, (x, v) -> x.fete(1032, 1, v));
    }

    // ---- 37

    private static void crowns() {
        Edges.sentence(37, "for each k parts of just k times parts of fewer than k of each other one (by PAIRS), by 10 to the 9, cut each time; all k together");
        long[] due = new long[4];
        for (int k = 0; k <= 60; k++) {
            long parts = Edges14To21.third(k) - Edges14To21.third(k + 1);
            for (int others = 0; others < 3; others++) {
                due[others] += parts;
                parts = parts * (WHOLE - Edges14To21.third(k)) / WHOLE;
            }
        }
        Edges.due("one pair", Edges.meadow("ms1f1;p;p;e", Edges14To21.THIRDS).crown(10, 0), due[0]);
        Edges.due("one pair is all", due[0], WHOLE);
        EggThrow two = Edges.meadow("ms1f1;p;p;p;p;e", Edges14To21.THIRDS);
        Edges.due("two pairs", two.crown(1032, 0), due[1]);
        Edges.due("two pairs", two.crown(1032, 2), due[1]);
        EggThrow three = Edges.meadow("ms1f1;p;p;p;p;p;p;e", Edges14To21.THIRDS);
        for (int lower = 0; lower < 3; lower++) {
            Edges.due("three pairs", three.crown(345012, lower), due[2]);
        }
        Edges.due("none is caught, alone", Edges.meadow("p;p;e", "y:99").crown(10, 0), WHOLE);
        Edges.due("none is caught", Edges.meadow("p;p;p;p;e", "y:99").crown(1032, 0), 0);
        Edges.due("all are caught", Edges.meadow("ms1f1;p;p;p;p;e", "y:0").crown(1032, 2), 0);
        Edges.due("all are caught, alone", Edges.meadow("ms1f1;p;p;e", "y:0").crown(10, 0), WHOLE);
        EggThrow eggs = Edges.meadow("ms1f1;p;p;p;p;p;p;eb9;eb1", "y:9");
        Edges.due("EGG j modulo EGGS", eggs.crown(103254, 0), 0);
        Edges.due("EGG j modulo EGGS", eggs.crown(103254, 2), 0);
        EggThrow last = Edges.meadow("ms1f1;p;p;p;p;p;p;eb1;eb1;eb9", "y:9");
        Edges.due("EGG 2", last.crown(103254, 4), WHOLE);
        Edges.due("EGG 1", last.crown(103254, 2), 0);
        EggThrow wind = Edges.meadow("mf60w1;p;p;p;p;p;p;eb1;eb1;eb50", "y:w=1?50;y:99");
        Edges.due("EGG 2 from END 0", wind.crown(103254, 4), WHOLE);
        EggThrow duel = Edges.meadow("ms1f1;p;p;e", "y:0");
        duel.duel(1, 10, 0, 0);
        Edges.due("one pair behind a duel", duel.crown(10, 0), WHOLE);
    }

    private static void crownsRefused() {
        Edges.sentence(37, "NONE: no such PAIRS");
        Edges.refused(Edges.RICH, NONE, NO_PAIRS, (x, v) -> x.crown(v, 0));
        Edges.taken(Edges.RICH, NONE, LAST_PAIRS, (x, v) -> x.crown(v, 0));
        Edges.refused(Edges.BARE, NONE, new int[] {0, 1, 10, 1032}, (x, v) -> x.crown(v, 0));
        Edges.refused(Edges.ODD, NONE, new int[] {10, 102, 12, 120, 201, 210, 1032}, (x, v) -> x.crown(v, 0));
        Edges.refused(Edges.of("p;p;e"), NONE, new int[] {0, 1, 11, 110, 1032}, (x, v) -> x.crown(v, 0));
        Edges.sentence(37, "no such lower one");
        Edges.refused(Edges.RICH, NONE, new int[] {-1, 1, 3, 4, 5, Edges.LOWEST, Edges.HIGHEST}, (x, v) -> x.crown(1032, v));
        Edges.taken(Edges.RICH, NONE, new int[] {0, 2}, (x, v) -> x.crown(1032, v));
        Edges.refused(Edges.RICH, NONE, new int[] {2, 3}, (x, v) -> x.crown(3210, v));
        Edges.taken(Edges.RICH, NONE, new int[] {0, 1}, (x, v) -> x.crown(3210, v));
        Edges.refused(Edges.FULL, NONE, new int[] {1, 3, 5, 6, -1}, (x, v) -> x.crown(103254, v));
        Edges.taken(Edges.FULL, NONE, new int[] {0, 2, 4}, (x, v) -> x.crown(103254, v));
        EggThrow x = Edges.meadow("p;p;p;p;p;p;e");
        x.crown(103254, 4);
        Edges.due("nothing of other pairs is left", x.crown(543210, 4), NONE);
    }

    // ---- 38

    private static void cartonIs(EggThrow x, int n, int digits, int parts) {
        Edges.due(n + " throws", x.carton(1, 0, n, 0), digits);
        Edges.due("parts of " + n, x.carton(1, 0, n, 1), parts);
    }

    private static void cartonsOfSeveral() {
        Edges.sentence(38, "by which parts in which all are caught are most (of several the least): it; parts");
        EggThrow alike = Edges.meadow("p;p;e;e;e;e;e;e", "y:0");
        int[] least = {0, 1, 12, 123, 1234, 12345};
        for (int n = 1; n <= 6; n++) {
            cartonIs(alike, n, least[n - 1], WHOLE);
            cartonIs(Edges.meadow("p;p;e;e;e;e;e;e", "y:99"), n, least[n - 1], 0);
            cartonIs(Edges.meadow("p;p;e;e;e;e;e;e", Edges14To21.THIRDS), n, least[n - 1], Edges14To21.third(n));
        }
        EggThrow fit = Edges.meadow("mf6s9;p;p;eb51;eb42;eb33;eb24;eb15;eb6", "y:d");
        cartonIs(fit, 6, 543210, WHOLE);
        cartonIs(fit, 1, 0, WHOLE);
        cartonIs(fit, 2, 1, WHOLE);
        cartonIs(Edges.meadow("mf6s9;p;p;eb50;eb42;eb33;eb24;eb15;eb6", "y:d"), 6, 12345, 0);
        cartonIs(Edges.meadow("mf6s9;p;p;eb15;eb6;eb99", "y:d"), 2, 2, WHOLE);
        cartonIs(Edges.meadow("mf6s9;p;p;eb6;eb15;eb23", "y:d"), 3, 12, 0);
        cartonIs(Edges.meadow("mf6s9;p;p;eb5;eb6", "y:d"), 1, 1, WHOLE);
        cartonIs(Edges.meadow("p;p;e"), 1, 0, WHOLE);
        Edges.sentence(38, "a PAIR throws n THROWS (1 .. EGGS), each with another EGG");
        EggThrow slips = Edges.meadow("pl2;pl1;pl0;e;e;e", Edges14To21.THIRDS);
        Edges.due("a fifth, a third", slips.carton(1, 0, 2, 1), WHOLE / 5 / 3);
        Edges.due("a third, a fifth, a third", slips.carton(10, 0, 3, 1), WHOLE / 3 / 5 / 3);
        Edges.due("none, a fifth", slips.carton(20, 1, 2, 1), WHOLE / 5);
        EggThrow ends = Edges.meadow("mw1;p;p;e;eb99", "y:w=1?30;y:99");
        Edges.due("END of who throws first", ends.carton(1, 0, 2, 0), 1);
        Edges.due("END of who throws first", ends.carton(1, 1, 2, 0), 10);
    }

    private static void cartonsTillSixty() {
        Edges.sentence(38, "the n-th THROW would pass 60 YARDS");
        String eggs = ";p;p;e;e;e;e;e;e";
        Edges.taken(Edges.of("mf15s9" + eggs), NONE, new int[] {1, 5, 6}, (x, v) -> x.carton(1, 0, v, 0));
        Edges.refused(Edges.of("mf16s9" + eggs), NONE, new int[] {6}, (x, v) -> x.carton(1, 0, v, 0));
        Edges.taken(Edges.of("mf16s9" + eggs), NONE, new int[] {1, 5}, (x, v) -> x.carton(1, 0, v, 1));
        Edges.refused(Edges.of("mf60s1" + eggs), NONE, new int[] {2, 3, 6}, (x, v) -> x.carton(1, 0, v, 1));
        Edges.taken(Edges.of("mf60s1" + eggs), NONE, new int[] {1}, (x, v) -> x.carton(1, 0, v, 1));
        Edges.refused(Edges.of("mf58s1" + eggs), NONE, new int[] {4}, (x, v) -> x.carton(1, 0, v, 1));
        Edges.taken(Edges.of("mf58s1" + eggs), NONE, new int[] {3}, (x, v) -> x.carton(1, 0, v, 1));
    }

    private static void cartonsRefused() {
        Edges.sentence(38, "NONE: no such ones");
        Edges.noSuchTwo(NONE, (x, v) -> x.carton(v, 0, 1, 0));
        Edges.noSuchEnd(NONE, (x, v) -> x.carton(1, v, 1, 0));
        Edges.noSuchWhat(NONE, (x, v) -> x.carton(1, 0, 1, v));
        Edges.sentence(38, "alike");
        Edges.alike(NONE, (x, v) -> x.carton(v, 0, 1, 0));
        Edges.sentence(38, "out of bounds");
        Edges.refused(Edges.RICH, NONE, new int[] {0, -1, 4, 5, 6, Edges.LOWEST, Edges.HIGHEST}, (x, v) -> x.carton(1, 0, v, 0));
        Edges.taken(Edges.RICH, NONE, new int[] {1, 3}, (x, v) -> x.carton(1, 0, v, 0));
        Edges.refused(Edges.of("p;p;p;e"), NONE, new int[] {0, 2}, (x, v) -> x.carton(1, 0, v, 0));
        Edges.refused(Edges.FULL, NONE, new int[] {0, 7}, (x, v) -> x.carton(1, 0, v, 0));
        Edges.taken(Edges.FULL, NONE, new int[] {1, 6}, (x, v) -> x.carton(1, 0, v, 0));
    }
}
