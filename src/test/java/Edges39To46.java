/** The boundaries of promises 39 to 46: what would do, gusts, what was measured, and rows. */
final class Edges39To46 {
    private static final int NONE = Edges.NONE;
    private static final int HIDDEN = Edges.HIDDEN;
    private static final int WHOLE = Edges.WHOLE;
    private static final int[] NO_ROW = {0, 1, 3, 12, 322, 1234, 3211, 1223, 122, 3333, 10123, 13210, 4321, 5123, 9123, 4123,
        1240, 12345, -1, -123, -3210, Edges.LOWEST, Edges.HIGHEST};
    private static final int[] LAST_ROW = {123, 321, 1023, 3210, 3012};

    private Edges39To46() {
    }

    static void hold() {
        sparesOfSeveral();
        sparesRefused();
        leastArms();
        leastLegs();
        leastRefused();
        loftsOfSeveral();
        loftsRefused();
        gusts();
        gustsRefused();
        measuresTwenty();
        measuresRefused();
        heldBits();
        heldRefused();
        chains();
        chainsRefused();
        rowsOfSeveral();
        rowsRefused();
    }

    // ---- 39

    private static void spareIs(String eggs, String law, int spare) {
        EggThrow x = Edges.meadow("p;p;" + eggs, law);
        Edges.due("of " + eggs + " by " + law, x.spare(1, 0, 30), spare);
    }

    private static void sparesOfSeveral() {
        Edges.sentence(39, "the EGG that bears least (BEARS, CRACKED: half of it, cut)");
        spareIs("eb50", "y:50", 0);
        spareIs("eb49;eb50;eb51", "y:50", 1);
        spareIs("eb51;eb50;eb49", "y:50", 1);
        spareIs("eb99c1;eb98c1;eb49", "y:49", 0);
        spareIs("eb50;eb99c1;eb49", "y:49", 1);
        spareIs("eb50;eb97c1;eb49", "y:49", 2);
        spareIs("eb1;eb1c1", "y:0", 1);
        spareIs("eb2;eb3c1", "y:1", 1);
        Edges.sentence(39, "is GOOD for all slips (of several the lowest)");
        spareIs("eb50;eb50;eb50", "y:50", 0);
        spareIs("eb51;eb50;eb50;eb50", "y:50", 1);
        spareIs("eb99;eb99;eb99;eb99;eb99;eb50", "y:50", 5);
        spareIs("eb99c1;eb49;eb98c1", "y:49", 0);
        spareIs("eb50;eb60", "y:r=1?60;y:50", 1);
        Edges.sentence(39, "NONE: none");
        Edges.refused(Edges.of("p;p;eb49;eb99c1;eb1", "y:50"), NONE, new int[] {1, 60}, (x, v) -> x.spare(1, 0, v));
        Edges.refused(Edges.of("pl5;pr4;e", "y:0"), NONE, new int[] {1, 60}, (x, v) -> x.spare(1, 0, v));
        EggThrow ends = Edges.meadow("mw1;p;p;e", "y:w=1?0;y:99");
        Edges.due("from an END", ends.spare(1, 0, 1), 0);
        Edges.due("from an END", ends.spare(1, 1, 1), NONE);
        EggThrow last = Edges.meadow("mw1;p;p;eb1;eb1;eb50", "y:w=1?50;y:99");
        Edges.due("the last egg", last.spare(1, 0, 1), 2);
        Edges.due("not from the other end", last.spare(1, 1, 1), NONE);
        last.set(1, 1);
        Edges.due("the last egg from END 1", last.spare(1, 1, 1), 2);
        Edges.due("not from the other end", last.spare(1, 0, 1), NONE);
        EggThrow slips = Edges.meadow("pl5r5;pl0r0;e", "y:0");
        Edges.due("who throws slips", slips.spare(1, 0, 1), NONE);
        Edges.due("who throws does not slip", slips.spare(10, 0, 1), 0);
    }

    private static void sparesRefused() {
        Edges.sentence(39, "no such ones");
        Edges.noSuchTwo(NONE, (x, v) -> x.spare(v, 0, 4));
        Edges.noSuchEnd(NONE, (x, v) -> x.spare(1, v, 4));
        Edges.sentence(39, "alike");
        Edges.alike(NONE, (x, v) -> x.spare(v, 0, 4));
        Edges.sentence(39, "out of bounds");
        Edges.noSuchYards(NONE, (x, v) -> x.spare(1, 0, v));
    }

    // ---- 40

    private static void leastArms() {
        Edges.sentence(40, "the least ARM of who catches (0 .. 9 in place of the own)");
        for (int arm = 0; arm <= 9; arm++) {
            for (int own = 0; own <= 9; own += 9) {
                EggThrow x = Edges.meadow("pa5;pa" + own + ";e", "y:a<" + arm + "?99;y:0");
                Edges.due("from " + arm + " on", x.least(1, 0, 60, 0), arm);
                Edges.due("the arm is as it was", x.person(1, 1), own);
            }
        }
        Edges.due("just 9", Edges.meadow("p;p;e", "y:a=9?0;y:99").least(1, 0, 1, 0), 9);
        Edges.due("all slips", Edges.meadow("pl5;pr5;e", "y:a<7&r=5?99;y:0").least(1, 0, 1, 0), 7);
        EggThrow x = Edges.meadow("p;p;e");
        // the best bow over 17 yards is 4: 34 less twice the arm, and 3 by the slip towards
        Edges.due("by its best", x.least(1, 0, 17, 0), 4);
        Edges.due("by its best", x.least(1, 0, 22, 0), 9);
        Edges.sentence(40, "NONE: none");
        Edges.refused(Edges.of("p;p;e"), NONE, new int[] {23, 60}, (y, v) -> y.least(1, 0, v, 0));
        Edges.refused(Edges.of("pl2;p;e", "y:0"), NONE, new int[] {1}, (y, v) -> y.least(1, 0, v, 0));
    }

    private static void leastLegs() {
        Edges.sentence(40, "the least RUN (0 .. 5) likewise");
        for (int slip = 0; slip <= 5; slip++) {
            for (int own = 0; own <= 5; own += 5) {
                EggThrow x = Edges.meadow("pr3l" + slip + ";pr" + own + ";e", "y:0");
                Edges.due("slip " + slip, x.least(1, 0, 60, 1), slip);
                Edges.due("the run is as it was", x.person(1, 2), own);
            }
        }
        Edges.due("just by BOW 5, against WIND 9", Edges.meadow("mw9;pl0b5;p;e", "y:b=4?0;y:99").least(1, 0, 1, 1), 4);
        Edges.due("just by 5", Edges.meadow("pl0;p;e", "y:r=5?0;y:99").least(1, 0, 1, 1), 5);
        Edges.due("never", Edges.meadow("mw9;pl2b5;p;e", "y:b=4?0;y:99").least(1, 0, 1, 1), NONE);
        Edges.due("never", Edges.meadow("p;p;e", "y:99").least(1, 0, 1, 1), NONE);
    }

    private static void leastRefused() {
        Edges.sentence(40, "no such ones");
        Edges.noSuchTwo(NONE, (x, v) -> x.least(v, 0, 4, 0));
        Edges.noSuchTwo(NONE, (x, v) -> x.least(v, 0, 4, 1));
        Edges.noSuchEggEnd(NONE, (x, v) -> x.least(1, v, 4, 0));
        Edges.noSuchWhat(NONE, (x, v) -> x.least(1, 0, 4, v));
        Edges.sentence(40, "alike");
        Edges.alike(NONE, (x, v) -> x.least(v, 0, 4, 1));
        Edges.sentence(40, "out of bounds");
        Edges.noSuchYards(NONE, (x, v) -> x.least(1, 0, v, 1));
    }

    // ---- 41

    private static void loftIs(String law, int aim, int good) {
        EggThrow x = Edges.meadow("pl0b9;pr5;e", law);
        Edges.due("the aim by " + law, x.loft(1, 0, 60, 0, 0), aim);
        Edges.due("good by " + law, x.loft(1, 0, 60, 0, 1), good);
        Edges.due("the aim of BOW 9 by " + law, x.loft(1, 0, 1, 9, 0), aim);
    }

    private static void loftsOfSeveral() {
        Edges.sentence(41, "for each BOW the AIM that is GOOD for the most slips (of several that nearest to 0, then the one below)");
        loftIs("y:0", 0, 1);
        loftIs("y:99", 0, 0);
        for (int aim = 1; aim <= 5; aim++) {
            loftIs("y:r=" + aim + "?0;y:99", aim, 1);
            loftIs("y:r=0-" + aim + "?0;y:99", -aim, 1);
            loftIs("y:r=" + aim + "|r=0-" + aim + "?0;y:99", -aim, 1);
            loftIs("y:r<0-" + aim + "+1|r>" + aim + "-1?0;y:99", -aim, 1);
            loftIs("y:r=" + (aim - 1) + "|r=0-" + aim + "?0;y:99", aim - 1, 1);
        }
        EggThrow wide = Edges.meadow("pl5;pr4;e", "y:0");
        Edges.due("nine of eleven", wide.loft(1, 0, 1, 0, 0), 0);
        Edges.due("nine of eleven", wide.loft(1, 0, 1, 0, 1), 9);
        EggThrow just = Edges.meadow("pl0b9;pr5;e", "y:d=7&b=3?0;y:99");
        Edges.due("BOW 3 over 7", just.loft(1, 0, 7, 3, 1), 1);
        Edges.due("BOW 3 over 3", just.loft(1, 0, 3, 3, 1), 0);
        Edges.due("BOW 7 over 7", just.loft(1, 0, 7, 7, 1), 0);
        EggThrow wind = Edges.meadow("mw9;pl0b9;pr0;e", "y:0");
        int[] aims = {0, -2, -4, 0, 0};
        for (int bow = 0; bow < aims.length; bow++) {
            Edges.due("against BOW " + bow, wind.loft(1, 0, 1, bow, 0), aims[bow]);
            Edges.due("from the other end", wind.loft(1, 1, 1, bow, 0), -aims[bow]);
            Edges.due("good", wind.loft(1, 0, 1, bow, 1), bow < 3 ? 1 : 0);
        }
    }

    private static void loftsRefused() {
        Edges.sentence(41, "HIDDEN: no such ones");
        Edges.noSuchTwo(HIDDEN, (x, v) -> x.loft(v, 0, 4, 0, 0));
        Edges.noSuchEggEnd(HIDDEN, (x, v) -> x.loft(1, v, 4, 0, 0));
        Edges.noSuchWhat(HIDDEN, (x, v) -> x.loft(1, 0, 4, 0, v));
        Edges.sentence(41, "alike");
        Edges.alike(HIDDEN, (x, v) -> x.loft(v, 0, 4, 0, 0));
        Edges.sentence(41, "out of bounds");
        Edges.noSuchYards(HIDDEN, (x, v) -> x.loft(1, 0, v, 0, 0));
        Edges.refused(Edges.RICH, HIDDEN, new int[] {-1, 8, 9, 10, Edges.LOWEST, Edges.HIGHEST}, (x, v) -> x.loft(1, 0, 4, v, 0));
        Edges.taken(Edges.RICH, HIDDEN, new int[] {0, 7}, (x, v) -> x.loft(1, 0, 4, v, 0));
        Edges.refused(Edges.RICH, HIDDEN, new int[] {6, 7}, (x, v) -> x.loft(10, 0, 4, v, 0));
        Edges.taken(Edges.RICH, HIDDEN, new int[] {5}, (x, v) -> x.loft(10, 0, 4, v, 1));
        Edges.refused(Edges.of("pb0;pb9;e"), HIDDEN, new int[] {-1, 1}, (x, v) -> x.loft(1, 0, 4, v, 0));
        Edges.taken(Edges.of("pb0;pb9;e"), HIDDEN, new int[] {0, 9}, (x, v) -> x.loft(v == 0 ? 1 : 10, 0, 4, v, 0));
    }

    // ---- 42

    private static void gusts() {
        Edges.sentence(42, "HOPE of a PAIR with WIND 0, 1, .. g (0 .. 9), together, by g and 1, cut");
        for (int wind = 0; wind <= 9; wind++) {
            EggThrow x = Edges.meadow("mf60w4;p;p;e", "y:w=" + wind + "?0;y:99");
            for (int g = 0; g <= 9; g++) {
                Edges.due("just " + wind + " of " + g, x.gusty(1, 0, g), g < wind ? 0 : WHOLE / (g + 1));
                Edges.due("from the other end", x.gusty(1, 1, g), wind == 0 ? WHOLE / (g + 1) : 0);
            }
            Edges.due("the wind is as it was", x.count(4), 4);
        }
        Edges.due("sixty each", Edges.meadow("ms1f1;p;p;e", "y:0").gusty(1, 0, 9), 60L * WHOLE);
        EggThrow turned = Edges.meadow("mf60d1;p;p;e", "y:w>0?0;y:99");
        Edges.due("the END as it is", turned.gusty(1, 0, 9), 0);
        Edges.due("the END as it is", turned.gusty(1, 1, 9), 900000000);
    }

    private static void gustsRefused() {
        Edges.sentence(42, "NONE: no such ones");
        Edges.noSuchTwo(NONE, (x, v) -> x.gusty(v, 0, 1));
        Edges.noSuchEggEnd(NONE, (x, v) -> x.gusty(1, v, 1));
        Edges.sentence(42, "alike");
        Edges.alike(NONE, (x, v) -> x.gusty(v, 0, 1));
        Edges.sentence(42, "out of bounds");
        Edges.refused(Edges.RICH, NONE, new int[] {-1, 10, Edges.LOWEST, Edges.HIGHEST}, (x, v) -> x.gusty(1, 0, v));
        Edges.taken(Edges.RICH, NONE, new int[] {0, 9}, (x, v) -> x.gusty(1, 0, v));
    }

    // ---- 43

    private static void measuresTwenty() {
        Edges.sentence(43, "how many there are");
        EggThrow x = Edges.meadow("p;p;p;p;p;p;e");
        for (int i = 1; i <= 20; i++) {
            Edges.due("one more", x.measure(i % 6, i % 2 == 0 ? 100 : 6091, i % 2 == 0 ? -99 : 99, i % 2 == 0 ? 0 : 999), i);
            Edges.due("counted", x.count(12), i);
        }
        Edges.sentence(43, "MEASURED (20 at most)");
        Edges.due("a twenty-first", x.measure(0, 100, 0, 0), NONE);
        Edges.sentence(43, "there are 20");
        Edges.due("no more", x.measure(0, 100, 0, 0), NONE);
        Edges.due("counted", x.count(12), 20);
        Edges.refused(Edges.FULL, NONE, new int[] {0, 5}, (y, v) -> y.measure(v, 400, 0, 5));
        Edges.tell(x, 0, "p;p;e");
        Edges.due("the count begins anew", x.measure(0, 100, 0, 0), 1);
    }

    private static void measuresRefused() {
        Edges.sentence(43, "NONE: no such ones");
        Edges.refused(Edges.RICH, NONE, Edges.NO_PERSON, (x, v) -> x.measure(v, 400, 0, 5));
        Edges.refused(Edges.BARE, NONE, new int[] {0, 1}, (x, v) -> x.measure(v, 400, 0, 5));
        Edges.done(Edges.RICH, NONE, new int[] {0, 3}, (x, v) -> x.measure(v, 400, 0, 5));
        Edges.refused(Edges.RICH, NONE, new int[] {402, 409, 412, 6002, 6099, 199}, (x, v) -> x.measure(0, v, 0, 5));
        Edges.sentence(43, "100 times the YARDS, 10 times the BOW and the END");
        Edges.refused(Edges.RICH, NONE, new int[] {0, 1, 10, 90, 91, 99, 6100, 6101, 6190, 7000, -1, -100, -400, -401,
            Edges.LOWEST, Edges.HIGHEST}, (x, v) -> x.measure(0, v, 0, 5));
        Edges.done(Edges.RICH, NONE, new int[] {100, 101, 190, 191, 6000, 6001, 6090, 6091}, (x, v) -> x.measure(0, v, 0, 5));
        Edges.sentence(43, "OFF -99 .. 99");
        Edges.refused(Edges.RICH, NONE, new int[] {-100, 100, Edges.LOWEST, Edges.HIGHEST}, (x, v) -> x.measure(0, 400, v, 5));
        Edges.done(Edges.RICH, NONE, new int[] {-99, 0, 99}, (x, v) -> x.measure(0, 400, v, 5));
        Edges.sentence(43, "out of bounds (force 0 .. 999)");
        Edges.refused(Edges.RICH, NONE, new int[] {-1, 1000, Edges.LOWEST, Edges.HIGHEST}, (x, v) -> x.measure(0, 400, 0, v));
        Edges.done(Edges.RICH, NONE, new int[] {0, 999}, (x, v) -> x.measure(0, 400, 0, v));
    }

    // ---- 44

    private static void heldBits() {
        Edges.sentence(44, "LAWS (bits 0 .. 3; bit 4: none holds) by which all MEASURED is so");
        EggThrow x = Edges.meadow("p;p;e");
        for (int laws = 0; laws <= 4; laws++) {
            Edges.due("nothing measured, laws " + laws, x.held(), 16 + (1 << laws) - 1);
            Edges.tell(x, 1, "y:" + (laws + 2));
        }
        for (int law = 0; law < 4; law++) {
            EggThrow y = Edges.meadow("p;p;e");
            for (int i = 0; i < 4; i++) {
                Edges.tell(y, 1, i == law ? "y:d*100+b*10+r" : "y:d*100+b*10+r+1");
            }
            y.measure(0, 790, 4, 794);
            Edges.due("law " + law, y.held(), 1 << law);
            y.measure(1, 101, 99, 199);
            Edges.due("both", y.held(), 1 << law);
            y.measure(1, 6091, -99, 999);
            Edges.due("held at 999", y.held(), 1 << law);
            y.measure(1, 101, 99, 198);
            Edges.due("none of them", y.held(), 0);
        }
        int[] hows = {100, 101, 190, 191, 6000, 6001, 6090, 6091};
        for (int how : hows) {
            EggThrow codes = Edges.meadow("mw1;p;p;e", "y:d*10+b+w");
            codes.measure(0, how, 0, how / 100 * 10 + how / 10 % 10 + 1 - 2 * (how % 10));
            Edges.due("the code " + how, codes.held() & 1, 1);
        }
        EggThrow z = Edges.meadow("p;p;e", "y:0-7");
        z.measure(0, 110, 0, 0);
        Edges.due("held at 0", z.held(), 1 + 16);
        z.measure(0, 400, 0, 5);
        Edges.due("none holds", z.held(), 16);
        z.measure(0, 400, 0, 4);
        Edges.due("not even none", z.held(), 0);
        EggThrow full = Edges.meadow("p;p;e", "y:9");
        for (int i = 0; i < 20; i++) {
            full.measure(0, 600, 0, 9);
        }
        Edges.due("all twenty", full.held(), 1 + 16);
        Edges.sentence(44, "with ARM, WIND, its END as they are");
        EggThrow w = Edges.meadow("mw2;pa4;pa5;e", "y:a*10+w");
        w.measure(0, 100, 0, 42);
        w.measure(1, 101, 0, 48);
        Edges.due("as they are", w.held(), 1);
        w.set(0, 3);
        Edges.due("another wind", w.held(), 0);
        w.set(0, 2);
        w.set(1, 1);
        Edges.due("its other end", w.held(), 0);
        w.set(1, 0);
        Edges.due("as they were", w.held(), 1);
        w.law(NONE);
        Edges.due("whichever holds", w.held(), 1);
    }

    private static void heldRefused() {
        Edges.sentence(44, "NONE: no MEADOW.");
        Edges.refused(Edges.BARE, NONE, x -> x.held());
        Edges.refused(EggThrow::new, NONE, x -> x.held());
        Edges.taken(Edges.RICH, NONE, new int[] {0}, (x, v) -> x.held());
        Edges.taken(Edges.FULL, NONE, new int[] {0}, (x, v) -> x.held());
    }

    // ---- 45

    private static void chains() {
        Edges.sentence(45, "parts in which it comes whole to the last");
        for (int persons = 2; persons <= 6; persons++) {
            String all = Edges.repeated("p", persons, ";") + ";e";
            int row = new int[] {1, 12, 123, 1234, 12345}[persons - 2];
            Edges.due(persons + " by thirds", Edges.meadow(all, Edges14To21.THIRDS).chain(row, 0, 60),
                    Edges14To21.third(persons - 1));
            Edges.due(persons + " all", Edges.meadow(all, "y:0").chain(row, 0, 1), WHOLE);
            Edges.due(persons + " none", Edges.meadow(all, "y:99").chain(row, 0, 1), 0);
        }
        EggThrow slips = Edges.meadow("pl0;pl1;pl2;e", Edges14To21.THIRDS);
        Edges.due("who throws slips", slips.chain(12, 0, 4), WHOLE / 3);
        Edges.due("who throws slips", slips.chain(210, 0, 4), WHOLE / 5 / 3);
        Edges.due("who throws slips", slips.chain(120, 0, 4), WHOLE / 3 / 5);
        Edges.sentence(45, "from END 0 each, by BESTS");
        EggThrow ends = Edges.meadow("mw1;p;p;p;e", "y:w=1?0;y:99");
        Edges.due("with the wind", ends.chain(12, 0, 4), WHOLE);
        ends.set(1, 1);
        Edges.due("against it", ends.chain(12, 0, 4), 0);
        EggThrow arms = Edges.meadow("pa9;pa1;pa1;e;eb99", "y:a*10");
        Edges.due("the first only throws", arms.chain(12, 0, 4), WHOLE);
        Edges.due("the last only catches", arms.chain(120, 0, 4), 0);
        Edges.due("another EGG", arms.chain(120, 1, 4), WHOLE);
        EggThrow last = Edges.meadow("mw1;p;p;eb1;eb1;eb1;eb1;eb1;eb50", "y:w=1?50;y:99");
        Edges.due("the last EGG from END 0", last.chain(10, 5, 4), WHOLE);
        Edges.due("the one ahead of it", last.chain(10, 4, 4), 0);
    }

    private static void chainsRefused() {
        Edges.sentence(45, "(digits, each once, the first the highest; as many as there are)");
        for (int persons = 2; persons <= 4; persons++) {
            EggThrow x = Edges.meadow(Edges.repeated("p", persons, ";") + ";e");
            int rows = 0;
            for (int row = 0; row < 400; row++) {
                rows += x.chain(row, 0, 4) == NONE ? 0 : 1;
            }
            // of four persons those alone that begin with 0 are below 400
            Edges.due("rows of " + persons, rows, persons == 2 ? 2 : 6);
        }
        Edges.sentence(45, "NONE: no such row");
        Edges.refused(Edges.RICH, NONE, NO_ROW, (x, v) -> x.chain(v, 0, 4));
        Edges.taken(Edges.RICH, NONE, LAST_ROW, (x, v) -> x.chain(v, 0, 4));
        Edges.refused(Edges.of("p;p;e"), NONE, new int[] {0, 2, 11, 12, 21, 101, 110, -1, -10}, (x, v) -> x.chain(v, 0, 4));
        Edges.taken(Edges.of("p;p;e"), NONE, new int[] {1, 10}, (x, v) -> x.chain(v, 0, 4));
        Edges.refused(Edges.FULL, NONE, new int[] {0, 1, 1234, 12346, 12344, 543211, 1012345, 612345, 123456},
                (x, v) -> x.chain(v, 0, 4));
        Edges.taken(Edges.FULL, NONE, new int[] {12345, 543210, 102345}, (x, v) -> x.chain(v, 5, 4));
        Edges.refused(Edges.BARE, NONE, new int[] {0, 1, 10}, (x, v) -> x.chain(v, 0, 4));
        Edges.sentence(45, "no such EGG");
        Edges.refused(Edges.RICH, NONE, Edges.NO_EGG, (x, v) -> x.chain(123, v, 4));
        Edges.taken(Edges.RICH, NONE, Edges.LAST_EGG, (x, v) -> x.chain(123, v, 4));
        Edges.sentence(45, "out of bounds");
        Edges.noSuchYards(NONE, (x, v) -> x.chain(123, 0, v));
    }

    // ---- 46

    private static void rowIs(EggThrow x, int digits, int parts) {
        Edges.due("the row", x.row(0, 30, 0), digits);
        Edges.due("its parts", x.row(0, 30, 1), parts);
    }

    private static void rowsOfSeveral() {
        Edges.sentence(46, "of all rows that with the most such parts (of several the least): it; parts");
        int[] least = {1, 12, 123, 1234, 12345};
        for (int persons = 2; persons <= 6; persons++) {
            String all = Edges.repeated("p", persons, ";") + ";e";
            rowIs(Edges.meadow(all, "y:0"), least[persons - 2], WHOLE);
            rowIs(Edges.meadow(all, "y:99"), least[persons - 2], 0);
            rowIs(Edges.meadow(all, Edges14To21.THIRDS), least[persons - 2], Edges14To21.third(persons - 1));
        }
        // who throws must bow as high as the arm of who catches: from 5 down to 0 alone
        rowIs(Edges.meadow("pa5b0;pa4b5;pa3b4;pa2b3;pa1b2;pa9b1;e", "y:b=a?0;y:99"), 543210, WHOLE);
        rowIs(Edges.meadow("pa5b0;pa4b5;pa3b4;pa2b3;pa2b2;pa9b1;e", "y:b=a?0;y:99"), 12345, 0);
        rowIs(Edges.meadow("pa9b0;pa0b0;e", "y:b=a?0;y:99"), 1, WHOLE);
        rowIs(Edges.meadow("pa0b0;pa9b0;e", "y:b=a?0;y:99"), 10, WHOLE);
        // the last one's slips do not count
        rowIs(Edges.meadow("pl5;p;p;e", Edges14To21.THIRDS), 120, WHOLE / 3 / 3);
        rowIs(Edges.meadow("pl0;pl5;pl1;e", Edges14To21.THIRDS), 21, WHOLE / 3);
        EggThrow ends = Edges.meadow("mw1;p;p;e;eb99", "y:w=1?0;y:98");
        rowIs(ends, 1, WHOLE);
        ends.set(1, 1);
        rowIs(ends, 1, 0);
        Edges.due("another EGG", ends.row(1, 30, 1), WHOLE);
        EggThrow last = Edges.meadow("mw1;p;p;eb1;eb1;eb1;eb1;eb1;eb50", "y:w=1?50;y:99");
        Edges.due("the last EGG from END 0", last.row(5, 30, 1), WHOLE);
        Edges.due("the one ahead of it", last.row(4, 30, 1), 0);
    }

    private static void rowsRefused() {
        Edges.sentence(46, "NONE: no such ones");
        Edges.noSuchEgg(NONE, (x, v) -> x.row(v, 4, 0));
        Edges.noSuchWhat(NONE, (x, v) -> x.row(0, 4, v));
        Edges.sentence(46, "out of bounds");
        Edges.noSuchYards(NONE, (x, v) -> x.row(0, v, 0));
    }
}
