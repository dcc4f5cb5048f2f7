/** The boundaries of promises 22 to 32: arms and legs, pairs against pairs, and what else could be. */
final class Edges22To32 {
    private static final int NONE = Edges.NONE;
    private static final int WHOLE = Edges.WHOLE;
    private static final int[] NO_LEAST = {-1, 12, 13, Edges.LOWEST, Edges.HIGHEST};
    private static final int[] LAST_LEAST = {0, 11};
    private static final int[] NO_HOW = {-1, -95, Edges.LOWEST, 11, 99, 111, 511, 600, 605, 610, 1005, Edges.HIGHEST};
    private static final int[] LAST_HOW = {0, 10, 500, 510};

    private Edges22To32() {
    }

    static void hold() {
        armsAsBits();
        armsInWind();
        armsRefused();
        boldYards();
        boldRests();
        boldRefused();
        duelAllK();
        duelRefused();
        lots();
        safes();
        spotsOfLeast();
        spotsRefused();
        legsAsBits();
        legsRefused();
        strideSteps();
        strideRefused();
        ranks();
        calmWinds();
        calmRefused();
        learnUpToNine();
        learnOfSeveral();
        learnRefused();
    }

    // ---- 22

    private static void armsAsBits() {
        Edges.sentence(22, "ARM (0 .. 9) of who catches, as bits");
        for (int arm = 0; arm <= 9; arm++) {
            EggThrow x = Edges.meadow("pa3;pa4;eb1", "y:a=" + arm + "?0;y:99");
            Edges.due("just " + arm, x.arms(1, 0, 1, 5, 1), 1 << arm);
            Edges.due("all but " + arm, Edges.meadow("p;p;e", "y:a=" + arm + "?99;y:0").arms(10, 1, 60, 5, 3), 1023 - (1 << arm));
        }
        Edges.due("none", Edges.meadow("p;p;e", "y:99").arms(1, 0, 1, 5, 1), 0);
        Edges.due("the own arm does not count", Edges.meadow("p;pa0;e").arms(1, 0, 17, 405, 2), 1016);
        Edges.sentence(22, "with which GOOD of a THROW is at least so much");
        EggThrow wide = Edges.meadow("pl5;pr5;e", "y:a+[r*r]<a*a+10?0;y:99");
        // r*r < a*a - a + 10: up to 3 by arms 0 to 2 (10, 10, 12), 3 by 3 (16), 4 by 4 (22), all from 5 on (30)
        Edges.due("7", wide.arms(1, 0, 1, 5, 7), 1023);
        Edges.due("8", wide.arms(1, 0, 1, 5, 8), 1023 - 15);
        Edges.due("9", wide.arms(1, 0, 1, 5, 9), 1023 - 15);
        Edges.due("10", wide.arms(1, 0, 1, 5, 10), 1023 - 31);
        Edges.due("11", wide.arms(1, 0, 1, 5, 11), 1023 - 31);
        Edges.due("0 is always so", Edges.meadow("p;p;e", "y:99").arms(1, 0, 1, 5, 0), 1023);
        Edges.due("more than slips", Edges.EASY.made().arms(1, 0, 1, 5, 4), 0);
        Edges.due("as many as slips", Edges.EASY.made().arms(1, 0, 1, 5, 3), 1023);
    }

    /** The wind as it is told, from both ends. */
    private static void armsInWind() {
        Edges.sentence(22, "ARMS, as bits (codes as for GOOD)");
        EggThrow x = Edges.meadow("mw3;p;p;eb1", "y:w=3?a;y:99");
        Edges.due("with the wind", x.arms(1, 0, 1, 5, 1), 3);
        Edges.due("against it", x.arms(1, 1, 1, 5, 1), 0);
        EggThrow y = Edges.meadow("mw8;pl0b2;pr0;e", "y:d=7&b=1?a*9;y:99");
        Edges.due("BOW 1, AIM -2 over 7", y.arms(1, 0, 7, 103, 1), 15);
        Edges.due("from the other end", y.arms(1, 1, 7, 103, 1), 0);
        Edges.due("over 8", y.arms(1, 0, 8, 103, 1), 0);
        Edges.due("BOW 2, AIM -4", y.arms(1, 0, 7, 201, 1), 0);
    }

    private static void armsRefused() {
        Edges.sentence(22, "NONE: no such ones");
        Edges.noSuchTwo(NONE, (x, v) -> x.arms(v, 0, 4, 5, 1));
        Edges.noSuchEggEnd(NONE, (x, v) -> x.arms(1, v, 4, 5, 1));
        Edges.sentence(22, "alike");
        Edges.alike(NONE, (x, v) -> x.arms(v, 0, 4, 5, 1));
        Edges.sentence(22, "out of bounds (least 0 .. 11)");
        Edges.refused(Edges.RICH, NONE, NO_LEAST, (x, v) -> x.arms(1, 0, 4, 5, v));
        Edges.taken(Edges.RICH, NONE, LAST_LEAST, (x, v) -> x.arms(1, 0, 4, 5, v));
        Edges.noSuchYards(NONE, (x, v) -> x.arms(1, 0, v, 5, 1));
        Edges.refused(Edges.EASY, NONE, NO_HOW, (x, v) -> x.arms(1, 0, 4, v, 1));
        Edges.taken(Edges.EASY, NONE, LAST_HOW, (x, v) -> x.arms(1, 0, 4, v, 1));
        Edges.refused(Edges.RICH, NONE, new int[] {800, 805}, (x, v) -> x.arms(1, 0, 4, v, 1));
        Edges.taken(Edges.RICH, NONE, new int[] {700, 710}, (x, v) -> x.arms(1, 0, 4, v, 1));
    }

    // ---- 23

    private static void boldIs(String meadow, String law, int k, int... rests) {
        EggThrow x = Edges.meadow(meadow, law);
        Edges.due(meadow + " k " + k + ": how many", x.bold(1, 10, 0, k, NONE), rests.length);
        for (int i = 0; i < rests.length; i++) {
            Edges.due(meadow + " k " + k + ": the " + i + "-th", x.bold(1, 10, 0, k, i), rests[i]);
        }
        Edges.due(meadow + " k " + k + ": no more", x.bold(1, 10, 0, k, rests.length), NONE);
    }

    private static void boldYards() {
        Edges.sentence(23, "YARDS of its k-th THROW (k 1 .. 9 told; 0, if that would pass 60)");
        int[] all = {11, 12, 13, 21, 22, 23, 31, 32, 33};
        boldIs("mf36;p;p;e", "y:0", 9, 33);
        boldIs("mf37;p;p;e", "y:0", 9, 22);
        boldIs("mf44;p;p;e", "y:0", 9, 22);
        boldIs("mf45;p;p;e", "y:0", 9, 11);
        boldIs("mf52;p;p;e", "y:0", 9, 11);
        boldIs("mf53;p;p;e", "y:0", 9, all);
        boldIs("mf57;p;p;e", "y:0", 2, 33);
        boldIs("mf58;p;p;e", "y:0", 2, 22);
        boldIs("mf59;p;p;e", "y:0", 2, 11);
        boldIs("mf60;p;p;e", "y:0", 2, all);
        boldIs("mf60;p;p;e", "y:0", 1, all);
        boldIs("mf1;p;p;e", "y:0", 1, all);
        Edges.sentence(23, "choose how many YARDS (1 .. 3) to step back behind each catch instead of STEP");
        boldIs("ms9f4;p;p;e", "y:0", 2, 33);
        boldIs("ms1f4;p;p;e", "y:0", 3, 33);
        boldIs("ms9f4;p;p;e", "y:d=7?99;y:0", 2, 22);
        boldIs("ms9f4;p;p;e", "y:d>5?99;y:0", 2, 11);
        boldIs("ms9f4;p;p;e", "y:99", 1, all);
    }

    private static void boldRests() {
        Edges.sentence(23, "times COMES of k, by 1,000,000, cut; less a half of the other's, cut");
        // the ninth throw: 50805 parts; 12, 20, 28 yards: 0, 1 and 1 when cut
        boldIs("mf4;p;p;e", Edges14To21.THIRDS, 9, 22, 23, 32, 33);
        // the fourth: 12345679 parts; 7, 10, 13 yards: 86, 123, 160
        boldIs("mf4;p;p;e", Edges14To21.THIRDS, 4, 33);
        Edges.sentence(23, "by which neither has more by another step of its own alone: how many, the i-th (rising)");
        EggThrow x = Edges.meadow("p;p;e;eb99;eb50", "y:d>6?99;y:d>5?50;y:0");
        Edges.due("each with its egg", x.bold(1, 1, 0, 2, 0), 11);
        Edges.due("each with its egg", x.bold(1, 1, 1, 2, 0), 13);
        Edges.due("each with its egg", x.bold(1, 1, 12, 2, 0), 32);
        Edges.due("each with its egg", x.bold(1, 1, 20, 2, 0), 21);
        Edges.due("one each", x.bold(1, 1, 12, 2, NONE), 1);
        EggThrow ends = Edges.meadow("mw1;p;p;e", "y:w=1&d=4?0;y:w=0-1&d<7?0;y:99");
        Edges.due("first from END 0", ends.bold(1, 10, 0, 2, 0), 22);
        ends.set(1, 1);
        Edges.due("first from END 0", ends.bold(1, 10, 0, 2, NONE), 9);
    }

    private static void boldRefused() {
        Edges.sentence(23, "NONE: no such ones");
        Edges.noSuchTwo(NONE, (x, v) -> x.bold(v, 1, 0, 1, NONE));
        Edges.noSuchTwo(NONE, (x, v) -> x.bold(1, v, 0, 1, NONE));
        Edges.refused(Edges.RICH, NONE, Edges.NO_TWO_EGGS, (x, v) -> x.bold(1, 1, v, 1, NONE));
        Edges.taken(Edges.RICH, NONE, Edges.LAST_TWO_EGGS, (x, v) -> x.bold(1, 1, v, 1, NONE));
        Edges.sentence(23, "alike within a PAIR");
        Edges.alike(NONE, (x, v) -> x.bold(v, 1, 0, 1, NONE));
        Edges.alike(NONE, (x, v) -> x.bold(1, v, 0, 1, NONE));
        Edges.taken(Edges.RICH, NONE, Edges.LAST_TWO, (x, v) -> x.bold(v, v, 0, 1, NONE));
        Edges.sentence(23, "out of bounds");
        Edges.refused(Edges.EASY, NONE, new int[] {0, -1, 10, Edges.LOWEST, Edges.HIGHEST}, (x, v) -> x.bold(1, 1, 0, v, 0));
        Edges.refused(Edges.EASY, NONE, new int[] {0, -1, 10}, (x, v) -> x.bold(1, 1, 0, v, NONE));
        Edges.taken(Edges.EASY, NONE, new int[] {1, 9}, (x, v) -> x.bold(1, 1, 0, v, 0));
        Edges.refused(Edges.EASY, NONE, new int[] {-2, -3, 9, 10, Edges.LOWEST, Edges.HIGHEST}, (x, v) -> x.bold(1, 1, 0, 1, v));
        Edges.taken(Edges.EASY, NONE, new int[] {NONE, 0, 8}, (x, v) -> x.bold(1, 1, 0, 1, v));
    }

    // ---- 24

    private static void duelAllK() {
        Edges.sentence(24, "(10 to the 9 less COMES of k), by 10 to the 9, cut, all k together");
        // with egg 0 a third of each throw, with the others all of it
        EggThrow x = Edges.meadow("ms1f1;p;p;e;eb99;eb99", Edges14To21.THIRDS);
        long farther = 0;
        long asFar = 0;
        for (int k = 0; k <= 60; k++) {
            long just = Edges14To21.third(k) - Edges14To21.third(k + 1);
            farther += just * (WHOLE - Edges14To21.third(k)) / WHOLE;
            asFar += just * just / WHOLE;
        }
        Edges.due("thirds each", x.duel(1, 10, 0, 0), farther);
        Edges.due("thirds each", x.duel(1, 10, 0, 1), asFar);
        Edges.due("all sixty against thirds", x.duel(1, 1, 10, 0), WHOLE);
        Edges.due("thirds against all sixty", x.duel(1, 1, 1, 0), 0);
        Edges.due("all sixty against thirds", x.duel(1, 1, 10, 1), 0);
        Edges.due("all sixty each", x.duel(1, 1, 12, 0), 0);
        Edges.due("all sixty each", x.duel(1, 1, 12, 1), WHOLE);
        Edges.sentence(24, "parts by which both come as far (just k times just k likewise)");
        EggThrow none = Edges.meadow("p;p;eb1;eb99", "y:50");
        Edges.due("none each", none.duel(1, 1, 0, 0), 0);
        Edges.due("none each", none.duel(1, 1, 0, 1), WHOLE);
        Edges.due("all against none", none.duel(1, 1, 10, 0), WHOLE);
        Edges.due("none against all", none.duel(1, 1, 1, 0), 0);
        Edges.due("none against all", none.duel(1, 1, 1, 1), 0);
        Edges.sentence(24, "each with an EGG, from END 0 each");
        EggThrow ends = Edges.meadow("mw1;p;p;e;eb1", "y:w=1?9;y:99");
        Edges.due("one throw against none", ends.duel(1, 1, 1, 0), WHOLE);
        Edges.due("none against one throw", ends.duel(1, 1, 10, 0), 0);
        ends.set(1, 1);
        Edges.due("none each", ends.duel(1, 1, 1, 1), WHOLE);
        EggThrow last = Edges.meadow("mf60w1;p;p;eb1;eb1;eb1;eb1;eb1;eb50", "y:w=1?50;y:99");
        Edges.due("the last egg against the first", last.duel(1, 1, 50, 0), WHOLE);
        Edges.due("the first egg against the last", last.duel(1, 1, 5, 0), 0);
        Edges.due("the last egg each", last.duel(1, 1, 55, 1), WHOLE);
        Edges.due("the first egg against the last", last.duel(1, 1, 5, 1), 0);
    }

    private static void duelRefused() {
        Edges.sentence(24, "NONE: no such ones");
        Edges.noSuchTwo(NONE, (x, v) -> x.duel(v, 1, 0, 0));
        Edges.noSuchTwo(NONE, (x, v) -> x.duel(1, v, 0, 0));
        Edges.refused(Edges.RICH, NONE, Edges.NO_TWO_EGGS, (x, v) -> x.duel(1, 1, v, 0));
        Edges.taken(Edges.RICH, NONE, Edges.LAST_TWO_EGGS, (x, v) -> x.duel(1, 1, v, 0));
        Edges.sentence(24, "alike within a PAIR");
        Edges.alike(NONE, (x, v) -> x.duel(v, 1, 0, 0));
        Edges.alike(NONE, (x, v) -> x.duel(1, v, 0, 0));
        Edges.taken(Edges.RICH, NONE, Edges.LAST_TWO, (x, v) -> x.duel(v, v, 0, 0));
        Edges.sentence(24, "out of bounds");
        Edges.noSuchWhat(NONE, (x, v) -> x.duel(1, 10, 0, v));
    }

    // ---- 25, 26, 27

    private static void lots() {
        Edges.sentence(25, "HOPE with each EGG, together, by how many EGGS, cut");
        Edges.due("one egg", Edges.meadow("mf60;p;p;eb50", "y:50").lot(1, 0), WHOLE);
        Edges.due("none of two", Edges.meadow("mf60;p;p;eb1;eb49", "y:50").lot(1, 0), 0);
        Edges.due("one of three", Edges.meadow("mf60;p;p;eb1;eb1;eb50", "y:50").lot(1, 0), 333333333);
        Edges.due("two of three", Edges.meadow("mf60;p;p;eb50;eb1;eb50", "y:50").lot(1, 0), 666666666);
        Edges.due("one of six", Edges.meadow("mf60;p;p;e;e;e;e;e;eb50", "y:50").lot(1, 0), 166666666);
        Edges.due("six of six, sixty each", Edges.meadow("ms1f1;p;p;e;e;e;e;e;e", "y:0").lot(1, 0), 60L * WHOLE);
        EggThrow ends = Edges.meadow("mf60w1;p;p;e;e", "y:w=1?0;y:99");
        Edges.due("END of who throws first", ends.lot(1, 0), WHOLE);
        Edges.due("END of who throws first", ends.lot(1, 1), 0);
        EggThrow last = Edges.meadow("mf60w1;p;p;eb1;eb1;eb50", "y:w=0-1?50;y:99");
        Edges.due("the last egg from the other end", last.lot(1, 1), 333333333);
        Edges.due("the last egg against it", last.lot(1, 0), 0);
        Edges.sentence(25, "NONE: no such ones");
        Edges.noSuchTwo(NONE, (x, v) -> x.lot(v, 0));
        Edges.noSuchEnd(NONE, (x, v) -> x.lot(1, v));
        Edges.sentence(25, "alike");
        Edges.alike(NONE, (x, v) -> x.lot(v, 0));
    }

    private static void safes() {
        Edges.sentence(26, "the most YARDS (1 .. 60) over which a THROW of two from an END by its BEST is GOOD for all slips");
        for (int yards = 1; yards <= 60; yards++) {
            Edges.due("up to " + yards, Edges.meadow("p;p;eb" + yards, "y:d").safe(1, 0), yards);
            Edges.due("just " + yards, Edges.meadow("p;p;e", "y:d=" + yards + "?0;y:99").safe(10, 1), yards);
        }
        Edges.due("all but one slip is not all", Edges.meadow("pl5;pr5;e", "y:r=5?99;y:0").safe(1, 0), NONE);
        Edges.due("all eleven", Edges.meadow("pl5;pr5;e", "y:0").safe(1, 0), 60);
        Edges.due("ten of eleven", Edges.meadow("pl5;pr4;e", "y:0").safe(1, 0), NONE);
        EggThrow slips = Edges.meadow("pl5r5;pl0r0;e", "y:0");
        Edges.due("who throws slips", slips.safe(1, 0), NONE);
        Edges.due("who throws does not slip", slips.safe(10, 0), 60);
        EggThrow ends = Edges.meadow("mw1;p;p;e;eb99", "y:w=1&d<9?0;y:98");
        Edges.due("from an END", ends.safe(1, 0), 8);
        Edges.due("from an END", ends.safe(1, 1), NONE);
        Edges.due("with an EGG", ends.safe(1, 11), 60);
        Edges.sentence(26, "NONE: none");
        Edges.refused(Edges.of("p;p;eb1", "y:d+1"), NONE, new int[] {1, 10}, (x, v) -> x.safe(v, 0));
        Edges.refused(Edges.of("pl1;pr0;e", "y:0"), NONE, new int[] {1}, (x, v) -> x.safe(v, 0));
        Edges.sentence(26, "no such ones");
        Edges.noSuchTwo(NONE, (x, v) -> x.safe(v, 0));
        Edges.noSuchEggEnd(NONE, (x, v) -> x.safe(1, v));
        Edges.sentence(26, "alike");
        Edges.alike(NONE, (x, v) -> x.safe(v, 0));
    }

    private static void spotsOfLeast() {
        Edges.sentence(27, "how many BOWS with AIMS are GOOD for so many slips or more");
        for (int bow = 0; bow <= 9; bow++) {
            EggThrow x = Edges.meadow("pl5b" + bow + ";pr5;e", "y:0");
            // AIM 0 is good for 11 slips, 1 and -1 for 10, .. 5 and -5 for 6
            for (int least = 0; least <= 11; least++) {
                int aims = least <= 6 ? 11 : 1 + 2 * (11 - least);
                Edges.due("bow " + bow + ", least " + least, x.spots(1, 0, 60, least), (bow + 1) * aims);
            }
        }
        // BOW b carries it off by b: AIM -b alone brings it back, for BOWS 0 to 5
        EggThrow wind = Edges.meadow("mw4;pl0b9;pr0;e", "y:d=7?0;y:99");
        Edges.due("in wind over 7", wind.spots(1, 0, 7, 1), 6);
        Edges.due("from the other end", wind.spots(1, 1, 7, 1), 6);
        Edges.due("in wind over 8", wind.spots(1, 0, 8, 1), 0);
        EggThrow none = Edges.meadow("p;p;e", "y:99");
        Edges.due("0 is always so", none.spots(1, 0, 1, 0), 66);
        Edges.due("never one", none.spots(1, 0, 1, 1), 0);
        Edges.due("one spot", Edges.meadow("pl0b9;pr5;e", "y:b=9&r=0-5?0;y:99").spots(1, 0, 1, 1), 1);
        Edges.due("one spot", Edges.meadow("pl0b9;pr5;e", "y:b=0&r=5?0;y:99").spots(1, 0, 1, 1), 1);
    }

    private static void spotsRefused() {
        Edges.sentence(27, "NONE: no such ones");
        Edges.noSuchTwo(NONE, (x, v) -> x.spots(v, 0, 4, 1));
        Edges.noSuchEggEnd(NONE, (x, v) -> x.spots(1, v, 4, 1));
        Edges.sentence(27, "alike");
        Edges.alike(NONE, (x, v) -> x.spots(v, 0, 4, 1));
        Edges.sentence(27, "out of bounds");
        Edges.noSuchYards(NONE, (x, v) -> x.spots(1, 0, v, 1));
        Edges.sentence(27, "least 0 .. 11");
        Edges.refused(Edges.RICH, NONE, NO_LEAST, (x, v) -> x.spots(1, 0, 4, v));
        Edges.taken(Edges.RICH, NONE, LAST_LEAST, (x, v) -> x.spots(1, 0, 4, v));
    }

    // ---- 28

    private static void legsAsBits() {
        Edges.sentence(28, "RUN (0 .. 5) of who catches, as bits, with which GOOD of a THROW is at least so much");
        EggThrow x = Edges.meadow("pl5r2;pr0;e", "y:0");
        int[] middle = {63, 63, 62, 62, 60, 60, 56, 56, 48, 48, 32, 32};
        int[] edge = {63, 63, 62, 60, 56, 48, 32, 0, 0, 0, 0, 0};
        for (int least = 0; least <= 11; least++) {
            Edges.due("aim 0, least " + least, x.legs(1, 0, 60, 5, least), middle[least]);
            Edges.due("aim 5, least " + least, x.legs(1, 0, 60, 10, least), edge[least]);
            Edges.due("aim -5, least " + least, x.legs(1, 0, 60, 0, least), edge[least]);
        }
        Edges.due("none", Edges.meadow("p;p;e", "y:99").legs(1, 0, 1, 5, 1), 0);
        Edges.due("no slip", Edges.meadow("pl0;p;e", "y:0").legs(1, 0, 1, 9, 1), 48);
        EggThrow wind = Edges.meadow("mw8;pl0b1;p;e", "y:d=7&b=1?0;y:99");
        Edges.due("the wind carries it off by 2", wind.legs(1, 0, 7, 105, 1), 60);
        Edges.due("AIM -2 brings it back", wind.legs(1, 0, 7, 103, 1), 63);
        Edges.due("off by 4 from the other end", wind.legs(1, 1, 7, 103, 1), 48);
        Edges.due("over 8 never", wind.legs(1, 0, 8, 103, 1), 0);
    }

    private static void legsRefused() {
        Edges.sentence(28, "NONE: no such ones");
        Edges.noSuchTwo(NONE, (x, v) -> x.legs(v, 0, 4, 5, 1));
        Edges.noSuchEggEnd(NONE, (x, v) -> x.legs(1, v, 4, 5, 1));
        Edges.sentence(28, "alike");
        Edges.alike(NONE, (x, v) -> x.legs(v, 0, 4, 5, 1));
        Edges.sentence(28, "out of bounds (least 0 .. 11)");
        Edges.refused(Edges.RICH, NONE, NO_LEAST, (x, v) -> x.legs(1, 0, 4, 5, v));
        Edges.taken(Edges.RICH, NONE, LAST_LEAST, (x, v) -> x.legs(1, 0, 4, 5, v));
        Edges.noSuchYards(NONE, (x, v) -> x.legs(1, 0, v, 5, 1));
        Edges.refused(Edges.EASY, NONE, NO_HOW, (x, v) -> x.legs(1, 0, 4, v, 1));
        Edges.taken(Edges.EASY, NONE, LAST_HOW, (x, v) -> x.legs(1, 0, 4, v, 1));
        Edges.refused(Edges.RICH, NONE, new int[] {800, 805}, (x, v) -> x.legs(1, 0, 4, v, 1));
        Edges.taken(Edges.RICH, NONE, new int[] {700, 710}, (x, v) -> x.legs(1, 0, 4, v, 1));
    }

    // ---- 29

    /** The step that is told does not count. */
    private static void strideIs(String from, int step, String law, long much) {
        String[] told = {"", "s9", "s1"};
        for (String other : told) {
            EggThrow x = Edges.meadow("m" + from + other + ";p;p;e", law);
            Edges.due(from + other + " by " + law, x.stride(1, 0, 0), step);
            Edges.due("how much, " + from + other + " by " + law, x.stride(1, 0, 1), much);
        }
    }

    private static void strideSteps() {
        Edges.sentence(29, "the STEP (1 .. 9 in place of that told)");
        strideIs("f1", 9, "y:[d-1]/9*9=d-1?0;y:99", 1000L * (1 + 10 + 19 + 28 + 37 + 46 + 55));
        strideIs("f1", 8, "y:[d-1]/8*8=d-1?0;y:99", 1000L * (1 + 9 + 17 + 25 + 33 + 41 + 49 + 57));
        strideIs("f1", 1, "y:0", 1000L * 1830);
        strideIs("f1", 2, "y:d=2?99;y:0", 1000L * 900);
        Edges.sentence(29, "are greatest (of several the least); that");
        strideIs("f60", 1, "y:0", 60000);
        strideIs("f52", 1, "y:0", 1000L * (52 + 53 + 54 + 55 + 56 + 57 + 58 + 59 + 60));
        strideIs("f51", 9, "y:d=51|d=60?0;y:99", 111000);
        strideIs("f52", 1, "y:d=52|d=61?0;y:99", 52000);
        strideIs("f1", 1, "y:99", 0);
        EggThrow wind = Edges.meadow("mf60w3;p;p;e", "y:w=3?0;y:99");
        Edges.due("with the wind", wind.stride(1, 0, 1), 60000);
        Edges.due("against it", wind.stride(1, 1, 1), 0);
        Edges.sentence(29, "(by 1,000,000 each, cut)");
        long sum = 0;
        for (int k = 1; k <= 60; k++) {
            sum += (long) k * Edges14To21.third(k) / 1000000;
        }
        long two = 0;
        for (int k = 1; k <= 30; k++) {
            two += (2L * k - 1) * Edges14To21.third(k) / 1000000;
        }
        EggThrow x = Edges.meadow("ms1f1;p;p;e", Edges14To21.THIRDS);
        Edges.due("longer steps are worth more", x.stride(1, 0, 1) > two && two > sum, true);
        long nine = 0;
        for (int k = 1; k <= 7; k++) {
            nine += (9L * k - 8) * Edges14To21.third(k) / 1000000;
        }
        Edges.due("each cut", x.stride(1, 0, 1), nine);
        Edges.due("19999.99998", Edges.meadow("mf60;p;p;e", Edges14To21.THIRDS).stride(1, 0, 1), 19999);
        Edges.due("the longest", x.stride(1, 0, 0), 9);
    }

    private static void strideRefused() {
        Edges.sentence(29, "NONE: no such ones");
        Edges.noSuchTwo(NONE, (x, v) -> x.stride(v, 0, 0));
        Edges.noSuchEggEnd(NONE, (x, v) -> x.stride(1, v, 0));
        Edges.noSuchWhat(NONE, (x, v) -> x.stride(1, 0, v));
        Edges.sentence(29, "alike");
        Edges.alike(NONE, (x, v) -> x.stride(v, 0, 0));
    }

    // ---- 30

    private static void ranks() {
        Edges.sentence(30, "the greatest first (of several by 10 times the lower and the other): the i-th");
        EggThrow six = Edges.meadow("p;p;p;p;p;p;e", "y:0");
        int i = 0;
        for (int lower = 0; lower < 6; lower++) {
            for (int other = lower + 1; other < 6; other++) {
                Edges.due("all alike", six.rank(0, i), 10 * lower + other);
                i++;
            }
        }
        Edges.due("no sixteenth", six.rank(0, 15), NONE);
        EggThrow x = Edges.meadow("mf60;p;pa9;pa1;pa5;e;eb99", "y:a*10");
        int[] due = {2, 12, 1, 3, 13, 23};
        for (int j = 0; j < due.length; j++) {
            Edges.due("who catches", x.rank(0, j), due[j]);
        }
        int[] firm = {1, 2, 3, 12, 13, 23};
        for (int j = 0; j < firm.length; j++) {
            Edges.due("an egg that bears all", x.rank(1, j), firm[j]);
        }
        EggThrow ends = Edges.meadow("mf60w1;p;pa9;p;e", "y:w=1?a*10;y:40-a*10");
        Edges.due("from END 0", ends.rank(0, 2), 1);
        ends.set(1, 1);
        Edges.due("from END 0", ends.rank(0, 0), 1);
        EggThrow last = Edges.meadow("mf60w1;p;pa9;p;eb1;eb1;eb1;eb1;eb1;eb50", "y:w=1&a=3?50;y:99");
        Edges.due("with the last egg from END 0", last.rank(5, 0), 2);
        Edges.due("with the last egg from END 0", last.rank(5, 1), 12);
        Edges.due("with the last egg from END 0", last.rank(5, 2), 1);
        Edges.due("with another egg all alike", last.rank(4, 0), 1);
        Edges.sentence(30, "NONE: no such EGG");
        Edges.noSuchEgg(NONE, (y, v) -> y.rank(v, 0));
        Edges.sentence(30, "no such i");
        Edges.refused(Edges.RICH, NONE, new int[] {-1, 6, 7, 15, Edges.LOWEST, Edges.HIGHEST}, (y, v) -> y.rank(0, v));
        Edges.taken(Edges.RICH, NONE, new int[] {0, 5}, (y, v) -> y.rank(0, v));
        Edges.refused(Edges.of("p;p;e"), NONE, new int[] {-1, 1, 2}, (y, v) -> y.rank(0, v));
        Edges.taken(Edges.of("p;p;e"), NONE, new int[] {0}, (y, v) -> y.rank(0, v));
        Edges.refused(Edges.FULL, NONE, new int[] {-1, 15, 16}, (y, v) -> y.rank(5, v));
        Edges.taken(Edges.FULL, NONE, new int[] {0, 14}, (y, v) -> y.rank(5, v));
        Edges.taken(Edges.ODD, NONE, new int[] {0, 2}, (y, v) -> y.rank(1, v));
        Edges.refused(Edges.ODD, NONE, new int[] {3}, (y, v) -> y.rank(1, v));
    }

    // ---- 31

    private static void calmWinds() {
        Edges.sentence(31, "WIND (0 .. 9, its END as told) by which HOPE of a PAIR is greatest (of several the least); HOPE");
        for (int told = 0; told <= 9; told += 3) {
            for (int wind = 0; wind <= 9; wind++) {
                EggThrow x = Edges.meadow("mf60w" + told + ";p;p;e", "y:w=" + wind + "?0;y:99");
                Edges.due("just " + wind, x.calm(1, 0, 0), wind);
                Edges.due("just " + wind, x.calm(1, 0, 1), WHOLE);
                Edges.due("from the other end", x.calm(1, 1, 0), 0);
                Edges.due("from the other end", x.calm(1, 1, 1), wind == 0 ? WHOLE : 0);
                x.set(1, 1);
                Edges.due("its END as told", x.calm(1, 1, 0), wind);
                Edges.due("its END as told", x.calm(1, 0, 1), wind == 0 ? WHOLE : 0);
                Edges.due("the wind is as it was", x.count(4), told);
            }
        }
        Edges.due("of several", Edges.meadow("mf60;p;p;e", "y:w>6?0;y:99").calm(1, 0, 0), 7);
        Edges.due("of all", Edges.meadow("mf60w5;p;p;e", "y:0").calm(1, 0, 0), 0);
        Edges.due("of none", Edges.meadow("mf60w5;p;p;e", "y:99").calm(1, 0, 0), 0);
        EggThrow storm = Edges.meadow("mf60w5;p;p;e", "y:w>9|w<0-9?0;y:99");
        Edges.due("no WIND 10", storm.calm(1, 0, 0), 0);
        Edges.due("no WIND 10", storm.calm(1, 0, 1), 0);
        Edges.due("no WIND 10", storm.calm(1, 1, 1), 0);
        Edges.due("of none", Edges.meadow("mf60w5;p;p;e", "y:99").calm(1, 0, 1), 0);
    }

    private static void calmRefused() {
        Edges.sentence(31, "NONE: no such ones");
        Edges.noSuchTwo(NONE, (x, v) -> x.calm(v, 0, 0));
        Edges.noSuchEggEnd(NONE, (x, v) -> x.calm(1, v, 0));
        Edges.noSuchWhat(NONE, (x, v) -> x.calm(1, 0, v));
        Edges.sentence(31, "alike");
        Edges.alike(NONE, (x, v) -> x.calm(v, 0, 0));
    }

    // ---- 32

    private static void learnUpToNine() {
        Edges.sentence(32, "have to be higher (each 9 at most)");
        for (int bow = 0; bow <= 9; bow++) {
            EggThrow x = Edges.meadow("pb" + bow + ";pb9;e", "y:b=9?0;y:99");
            Edges.due("the first from " + bow, x.learn(1, 0, 1, WHOLE), 10 * (9 - bow));
            Edges.due("both from " + bow, x.learn(1, 0, 2, WHOLE), 10 * (9 - bow));
            Edges.due("the other from " + bow, x.learn(10, 0, 1, WHOLE), 0);
            Edges.due("both from " + bow, x.learn(10, 0, 2, WHOLE), 9 - bow);
            Edges.due("the bow is as it was", x.person(0, 3), bow);
        }
        Edges.due("both by nine", Edges.meadow("pb0;pb0;e", "y:b=9?0;y:99").learn(1, 0, 2, 1), 99);
        // what another throw is good for stands for none of these
        EggThrow first = Edges.meadow("ms1f1;pb9;pb9;e", "y:d=1?99;y:0");
        EggThrow second = Edges.meadow("ms1f1;pb9;pb9;e", "y:d=2?99;y:0");
        for (int k = 3; k >= 1; k--) {
            Edges.due("the first is never caught, k " + k, first.learn(1, 0, k, 1), NONE);
            Edges.due("the second is never caught, k " + k, second.learn(1, 0, k, 1), k == 1 ? 0 : NONE);
        }
        Edges.due("higher than the most is not needed", Edges.meadow("pb8;pb8;e", "y:b=3?0;y:99").learn(1, 0, 2, 1), 0);
        Edges.sentence(32, "so that COMES of k is so much or more");
        EggThrow x = Edges.meadow("ms1f1;p;p;e", Edges14To21.THIRDS);
        for (int k = 0; k <= 19; k++) {
            int parts = Edges14To21.third(k);
            Edges.due("so much, k " + k, x.learn(1, 0, k, parts), 0);
            Edges.due("more, k " + k, parts == WHOLE ? NONE : x.learn(1, 0, k, parts + 1), NONE);
        }
        Edges.due("nothing of what is not thrown", Edges.meadow("mf60;p;p;e", "y:0").learn(1, 0, 2, 0), 0);
        Edges.sentence(32, "NONE: it can't be");
        Edges.refused(Edges.of("mf60;p;p;e", "y:0"), NONE, new int[] {2, 3, 60}, (y, v) -> y.learn(1, 0, v, 1));
        Edges.refused(Edges.of("p;p;e", "y:99"), NONE, new int[] {1, WHOLE}, (y, v) -> y.learn(1, 0, 1, v));
        Edges.taken(Edges.of("p;p;e", "y:99"), NONE, new int[] {0}, (y, v) -> y.learn(1, 0, 1, v));
    }

    private static void learnOfSeveral() {
        Edges.sentence(32, "the least together (of several the least for who throws first): 10 times the first's and the other's");
        // by BOW 0 a third, by a higher one all
        EggThrow x = Edges.meadow("ms1f1;pb0;pb0;e", "y:b>0?0;y:r=0?0;y:99");
        Edges.due("as it is", x.learn(1, 0, 2, 111111111), 0);
        Edges.due("either", x.learn(1, 0, 2, 111111112), 1);
        Edges.due("either", x.learn(1, 0, 2, 333333333), 1);
        Edges.due("both", x.learn(1, 0, 2, 333333334), 11);
        Edges.due("the first alone", x.learn(1, 0, 1, WHOLE), 10);
        Edges.due("the first twice", x.learn(1, 0, 3, 333333333), 10);
        Edges.due("both", x.learn(1, 0, 3, 333333334), 11);
        Edges.due("both", x.learn(1, 0, 60, WHOLE), 11);
        EggThrow slips = Edges.meadow("pl0;pl1;e", Edges14To21.THIRDS);
        Edges.due("the other alone slips", slips.learn(1, 0, 2, 333333333), 0);
        Edges.due("the other alone slips", slips.learn(1, 0, 2, 333333334), NONE);
        Edges.due("the first alone slips", slips.learn(10, 0, 2, 333333333), 0);
        Edges.due("the first alone slips", slips.learn(10, 0, 2, 333333334), NONE);
        Edges.due("the first twice", slips.learn(10, 0, 3, 111111111), 0);
        Edges.due("the first twice", slips.learn(10, 0, 3, 111111112), NONE);
        EggThrow edge = Edges.meadow("mf60;pl0b0;pr5;e", "y:b>2&r=5?0;y:99");
        Edges.due("by AIM 5 alone", edge.learn(1, 0, 1, WHOLE), 30);
        EggThrow other = Edges.meadow("mf60;pl0b0;pr5;e", "y:b>2&r=0-5?0;y:99");
        Edges.due("by AIM -5 alone", other.learn(1, 0, 1, WHOLE), 30);
        Edges.due("over 60 yards alone", Edges.meadow("mf60;p;p;e", "y:d=60?0;y:99").learn(1, 0, 1, WHOLE), 0);
        Edges.due("the second over STEP more", Edges.meadow("mf6s9;p;p;e", "y:d=6?0;y:99").learn(1, 0, 2, 1), NONE);
        Edges.due("the second over STEP more", Edges.meadow("mf6s9;p;p;e", "y:d=6|d=15?0;y:99").learn(1, 0, 2, WHOLE), 0);
        EggThrow wind = Edges.meadow("mf60w3;p;p;e", "y:w=3?0;y:99");
        Edges.due("with the wind", wind.learn(1, 0, 1, WHOLE), 0);
        Edges.due("against it", wind.learn(1, 1, 1, 1), NONE);
        // BOW b carries it off by 2 b, and AIM goes to 5
        int[] bows = {0, 1, 2, 3, 9};
        for (int bow : bows) {
            EggThrow carried = Edges.meadow("mf60w8;pl0b0;pr0;e", "y:b=" + bow + "?0;y:99");
            Edges.due("BOW " + bow + " in wind", carried.learn(1, 0, 1, WHOLE), bow < 3 ? 10 * bow : NONE);
            Edges.due("BOW " + bow + " in wind", carried.learn(1, 1, 1, WHOLE), bow < 3 ? 10 * bow : NONE);
        }
        EggThrow y = Edges.meadow("ms1f1;pb0;pb0;e", "y:b>3?0;y:b>1&r<1?0;y:r=0?0;y:99");
        // by BOW 2 two thirds, by 4 all
        Edges.due("as it is", y.learn(1, 0, 2, 111111111), 0);
        Edges.due("two by the other", y.learn(1, 0, 2, 222222222), 2);
        Edges.due("four by the other", y.learn(1, 0, 2, 333333333), 4);
        Edges.due("two each", y.learn(1, 0, 2, 444444444), 22);
        Edges.due("two and four", y.learn(1, 0, 2, 444444445), 24);
        Edges.due("two and four", y.learn(1, 0, 2, 666666666), 24);
        Edges.due("four each", y.learn(1, 0, 2, 666666667), 44);
    }

    private static void learnRefused() {
        Edges.sentence(32, "no such ones");
        Edges.noSuchTwo(NONE, (x, v) -> x.learn(v, 0, 1, 1));
        Edges.noSuchEggEnd(NONE, (x, v) -> x.learn(1, v, 1, 1));
        Edges.sentence(32, "alike");
        Edges.alike(NONE, (x, v) -> x.learn(v, 0, 0, 0));
        Edges.sentence(32, "out of bounds");
        Edges.refused(Edges.RICH, NONE, new int[] {-1, 61, 62, Edges.LOWEST, Edges.HIGHEST}, (x, v) -> x.learn(1, 0, v, 0));
        Edges.taken(Edges.RICH, NONE, new int[] {0, 1, 60}, (x, v) -> x.learn(1, 0, v, 0));
        Edges.refused(Edges.RICH, NONE, new int[] {-1, WHOLE + 1, Edges.LOWEST, Edges.HIGHEST},
                (x, v) -> x.learn(1, 0, 0, v));
        Edges.taken(Edges.RICH, NONE, new int[] {0, WHOLE}, (x, v) -> x.learn(1, 0, 0, v));
        EggThrow x = Edges.meadow("ms1f1;p;p;e", "y:0");
        Edges.due("k 60", x.learn(1, 0, 60, WHOLE), 0);
        Edges.due("k 61", x.learn(1, 0, 61, 0), NONE);
    }
}
