/** The boundaries of promises 14 to 21: how far a pair comes, whom with whom, which egg, how strong. */
final class Edges14To21 {
    private static final int NONE = Edges.NONE;
    private static final int HIDDEN = Edges.HIDDEN;
    private static final int WHOLE = Edges.WHOLE;
    /** One slip of three is caught, the middle one. */
    static final String THIRDS = "y:r=0?0;y:99";

    private Edges14To21() {
    }

    static void hold() {
        comesTillSixty();
        comesCut();
        comesRefused();
        fars();
        hopes();
        firsts();
        firstsWithLastEgg();
        firstsRefused();
        whomOfSeveral();
        whomRefused();
        whichOfSeveral();
        whichRefused();
        witnessTwenty();
        witnessRefused();
        strongByOne();
        strongWithin();
        strongCracked();
        strongRefused();
    }

    /** COMES of k if one slip of three is caught each time. */
    static int third(int k) {
        int parts = WHOLE;
        for (int i = 0; i < k; i++) {
            parts /= 3;
        }
        return parts;
    }

    // ---- 14

    private static void comesTillSixty() {
        Edges.sentence(14, "behind each catch over STEP more, till 60 YARDS would be passed");
        for (int step = 1; step <= 9; step++) {
            EggThrow x = Edges.EASY.made();
            x.set(2, step);
            for (int from = 1; from <= 60; from++) {
                x.set(3, from);
                int throwsInAll = (60 - from) / step + 1;
                Edges.due("the last from " + from + " by " + step, x.comes(1, 0, throwsInAll), WHOLE);
                Edges.due("no more from " + from + " by " + step, x.comes(1, 0, throwsInAll + 1), 0);
                Edges.due("far from " + from + " by " + step, x.far(32, 21), throwsInAll);
                Edges.due("hope from " + from + " by " + step, x.hope(23, 1), (long) throwsInAll * WHOLE);
            }
        }
        Edges.sentence(14, "(0, if there is no k-th THROW)");
        EggThrow x = Edges.meadow("mf60;p;p;e", "y:0");
        int[] none = {2, 3, 59, 60, 61, 62, 63, 100, 1000000, Edges.HIGHEST - 1, Edges.HIGHEST};
        for (int k : none) {
            Edges.due("k " + k, x.comes(1, 0, k), 0);
        }
        Edges.due("the first", x.comes(1, 0, 1), WHOLE);
        EggThrow all = Edges.meadow("ms1f1;p;p;e", "y:0");
        Edges.due("the sixtieth", all.comes(1, 0, 60), WHOLE);
        Edges.due("no more", all.comes(1, 0, 61), 0);
        Edges.due("no more", all.comes(1, 0, 62), 0);
        Edges.sentence(14, "k 0 ..");
        Edges.due("none at all", all.comes(1, 0, 0), WHOLE);
        Edges.due("none, and none is caught", Edges.meadow("p;p;e", "y:99").comes(1, 0, 0), WHOLE);
        Edges.due("one, and none is caught", Edges.meadow("p;p;e", "y:99").comes(1, 0, 1), 0);
    }

    private static void comesCut() {
        Edges.sentence(14, "behind each parts times GOOD by how many slips there are, cut");
        EggThrow x = Edges.meadow("ms1f1;p;p;e", THIRDS);
        for (int k = 0; k <= 61; k++) {
            Edges.due("a third each, " + k, x.comes(1, 0, k), third(k));
        }
        Edges.due("the last of them", x.comes(1, 0, 18), 2);
        Edges.due("nothing is left", x.comes(1, 0, 19), 0);
        EggThrow y = Edges.meadow("ms1f1;pl5;pl0r0;e", "y:0");
        int parts = WHOLE;
        for (int k = 1; k <= 20; k++) {
            parts = k % 2 == 1 ? parts / 11 : parts;
            Edges.due("an eleventh, then all: " + k, y.comes(1, 0, k), parts);
        }
        Edges.sentence(14, "one from END 0, the other from END 1 (or turned about)");
        EggThrow z = Edges.meadow("mw1;p;p;e", "y:w=1?0;y:99");
        Edges.due("the first from the wind's end", z.comes(1, 0, 1), WHOLE);
        Edges.due("the second from the other", z.comes(1, 0, 2), 0);
        Edges.due("the first from the other end", z.comes(1, 1, 1), 0);
        EggThrow turns = Edges.meadow("mw1;p;p;e", "y:w=1?0;y:r=0?0;y:99");
        for (int k = 0; k <= 29; k++) {
            Edges.due("every second one against the wind, " + k, turns.comes(1, 0, k), third(k / 2));
            Edges.due("from the other end, " + k, turns.comes(1, 1, k), third((k + 1) / 2));
        }
        z.set(1, 1);
        Edges.due("the wind turned about", z.comes(1, 0, 1), 0);
        Edges.due("the wind turned about", z.comes(1, 1, 1), WHOLE);
    }

    private static void comesRefused() {
        Edges.sentence(14, "NONE: no such ones");
        Edges.noSuchTwo(NONE, (x, v) -> x.comes(v, 0, 1));
        Edges.noSuchEggEnd(NONE, (x, v) -> x.comes(1, v, 1));
        Edges.refused(Edges.RICH, NONE, new int[] {-1, -2, Edges.LOWEST}, (x, v) -> x.comes(1, 0, v));
        Edges.taken(Edges.RICH, NONE, new int[] {0, 1, 61, Edges.HIGHEST}, (x, v) -> x.comes(1, 0, v));
        Edges.sentence(14, "alike");
        Edges.alike(NONE, (x, v) -> x.comes(v, 0, 1));
    }

    // ---- 15, 16

    private static void fars() {
        Edges.sentence(15, "the most THROWS with parts above 0");
        Edges.due("none", Edges.meadow("p;p;e", "y:99").far(1, 0), 0);
        Edges.due("one", Edges.meadow("mf60;p;p;e", "y:0").far(1, 0), 1);
        Edges.due("sixty", Edges.meadow("ms1f1;p;p;e", "y:0").far(1, 0), 60);
        Edges.due("till parts are cut to 0", Edges.meadow("ms1f1;p;p;e", THIRDS).far(1, 0), 18);
        Edges.due("till one is never caught", Edges.meadow("p;p;e", "y:d=10?99;y:0").far(1, 0), 3);
        EggThrow behind = Edges.meadow("p;p;e;eb99", "y:99");
        Edges.due("all, with a firm egg", behind.far(1, 10), 29);
        Edges.due("none behind that", behind.far(1, 0), 0);
        Edges.due("all behind that", behind.hope(1, 10), 29L * WHOLE);
        Edges.due("none behind that", behind.hope(1, 0), 0);
        Edges.sentence(15, "NONE: no such ones");
        Edges.noSuchTwo(NONE, (x, v) -> x.far(v, 0));
        Edges.noSuchEggEnd(NONE, (x, v) -> x.far(1, v));
        Edges.sentence(15, "alike");
        Edges.alike(NONE, (x, v) -> x.far(v, 0));
    }

    private static void hopes() {
        Edges.sentence(16, "COMES of all k from 1 on together");
        Edges.due("none", Edges.meadow("p;p;e", "y:99").hope(1, 0), 0);
        Edges.due("one", Edges.meadow("mf60;p;p;e", "y:0").hope(1, 0), WHOLE);
        Edges.due("two: more than an int", Edges.meadow("mf58;p;p;e", "y:0").hope(1, 0), 2L * WHOLE);
        Edges.due("sixty", Edges.meadow("ms1f1;p;p;e", "y:0").hope(1, 0), 60L * WHOLE);
        long thirds = 0;
        for (int k = 1; k <= 18; k++) {
            thirds += third(k);
        }
        Edges.due("thirds", Edges.meadow("ms1f1;p;p;e", THIRDS).hope(1, 0), thirds);
        Edges.sentence(16, "NONE: no such ones");
        Edges.noSuchTwo(NONE, (x, v) -> x.hope(v, 0));
        Edges.noSuchEggEnd(NONE, (x, v) -> x.hope(1, v));
        Edges.sentence(16, "alike");
        Edges.alike(NONE, (x, v) -> x.hope(v, 0));
    }

    // ---- 17

    /** One throw alone, so the arm of who catches and the end alone tell. */
    private static void firstIs(String law, int which, int hope) {
        EggThrow x = Edges.meadow("mf60w1;p;pa0;p;pa1;e;e", law);
        int[] codes = {13, 31};
        for (int two : codes) {
            Edges.due("first by " + law, x.first(two, 1, 0), which);
            Edges.due("hope by " + law, x.first(two, 1, 1), hope);
        }
    }

    private static void firsts() {
        Edges.sentence(17, "10 times the PERSON and the END (of several the least); HOPE");
        firstIs("y:a=1&w=1?0;y:99", 10, WHOLE);
        firstIs("y:a=1&w=0-1?0;y:99", 11, WHOLE);
        firstIs("y:a=0&w=1?0;y:99", 30, WHOLE);
        firstIs("y:a=0&w=0-1?0;y:99", 31, WHOLE);
        firstIs("y:a=1?0;y:99", 10, WHOLE);
        firstIs("y:a=0?0;y:99", 30, WHOLE);
        firstIs("y:w=1?0;y:99", 10, WHOLE);
        firstIs("y:w=0-1?0;y:99", 11, WHOLE);
        firstIs("y:a=1&w=0-1|a=0&w=1?0;y:99", 11, WHOLE);
        firstIs("y:0", 10, WHOLE);
        firstIs("y:99", 10, 0);
    }

    /** With the last of the eggs, from both ends. */
    private static void firstsWithLastEgg() {
        Edges.sentence(17, "10 times both PERSONS; the EGG");
        for (int end = 0; end < 2; end++) {
            EggThrow x = Edges.meadow("mf60w1d" + end + ";p;p;e;eb1;eb1;eb1;eb1;eb50", "y:w=0-1?50;y:99");
            Edges.due("first", x.first(1, 5, 0), 1 - end);
            Edges.due("hope", x.first(1, 5, 1), WHOLE);
            Edges.due("with another egg none", x.first(1, 4, 1), 0);
        }
    }

    private static void firstsRefused() {
        Edges.sentence(17, "NONE: no such ones");
        Edges.noSuchTwo(NONE, (x, v) -> x.first(v, 0, 0));
        Edges.noSuchEgg(NONE, (x, v) -> x.first(1, v, 0));
        Edges.noSuchWhat(NONE, (x, v) -> x.first(1, 0, v));
        Edges.sentence(17, "alike");
        Edges.alike(NONE, (x, v) -> x.first(v, 0, 0));
    }

    // ---- 18

    /** A throw is caught if who throws can bow as high as the arm of who catches is long. */
    private static final String BOW_AS_ARM = "y:b=a?0;y:99";

    private static void whomIs(String persons, String law, int digits, int whole) {
        EggThrow x = Edges.meadow("mf60;" + persons + ";e;eb99", law);
        Edges.due("of " + persons, x.whom(0), digits);
        Edges.due("how much of " + persons, x.whom(1), (long) whole * WHOLE);
    }

    private static void whomOfSeveral() {
        Edges.sentence(18, "digits to the base 10, of each PERSON the other one, PERSON 0 the highest (of several the least); how much");
        whomIs("p;p", "y:0", 10, 1);
        whomIs("p;p;p;p", "y:0", 1032, 2);
        whomIs("p;p;p;p;p;p", "y:0", 103254, 3);
        whomIs("p;p;p;p", "y:99", 1032, 0);
        whomIs("p;p;p;p;p;p", "y:99", 103254, 0);
        whomIs("pb5;pa9b6;pa5b0;pa6", BOW_AS_ARM, 2301, 2);
        whomIs("pb5;pa9b6;pa6b0;pa5", BOW_AS_ARM, 3210, 2);
        whomIs("pb5;pa9b5;pa5b0;pa5", BOW_AS_ARM, 2301, 2);
        whomIs("pb9;pa9b0;pa9b9;pa9", BOW_AS_ARM, 1032, 2);
        whomIs("pb1;pa9b2;pa9b3;pa3b0;pa2b0;pa1", BOW_AS_ARM, 543210, 3);
        whomIs("pb5;pb5a9;pb5a9;pa5b0;pa5b0;pa5", BOW_AS_ARM, 345012, 3);
        Edges.due("sixty throws each", Edges.meadow("ms1f1;p;p;p;p;p;p;e", "y:0").whom(1), 180L * WHOLE);
        EggThrow ends = Edges.meadow("mf60w1;p;p;e", "y:w=1?0;y:99");
        Edges.due("from END 0", ends.whom(1), WHOLE);
        ends.set(1, 1);
        Edges.due("from END 0", ends.whom(1), 0);
        Edges.due("EGG 0", Edges.meadow("mf60;p;p;eb1;eb99", "y:50").whom(1), 0);
        Edges.due("EGG 0", Edges.meadow("mf60;p;p;eb99;eb1", "y:50").whom(1), WHOLE);
        EggThrow lower = Edges.meadow("mf60;pa0;pa9;e", "y:a*10");
        Edges.due("the lower one throws", lower.whom(1), 0);
    }

    private static void whomRefused() {
        Edges.sentence(18, "all PERSONS (an even number) in PAIRS");
        for (int persons = 2; persons <= 6; persons++) {
            EggThrow x = Edges.meadow(Edges.repeated("p", persons, ";") + ";e");
            Edges.due(persons + " persons", x.whom(0) == NONE, persons % 2 == 1);
            Edges.due(persons + " persons", x.whom(1) == NONE, persons % 2 == 1);
        }
        Edges.sentence(18, "NONE: an odd number of PERSONS");
        Edges.refused(Edges.ODD, NONE, Edges.BOTH_WHATS, (x, v) -> x.whom(v));
        Edges.refused(Edges.of("p;p;p;p;p;e"), NONE, Edges.BOTH_WHATS, (x, v) -> x.whom(v));
        Edges.taken(Edges.of("p;p;e"), NONE, Edges.BOTH_WHATS, (x, v) -> x.whom(v));
        Edges.taken(Edges.FULL, NONE, Edges.BOTH_WHATS, (x, v) -> x.whom(v));
        Edges.sentence(18, "no MEADOW");
        Edges.refused(Edges.BARE, NONE, Edges.BOTH_WHATS, (x, v) -> x.whom(v));
        Edges.sentence(18, "no such what");
        Edges.noSuchWhat(NONE, (x, v) -> x.whom(v));
    }

    // ---- 19

    private static void whichOfSeveral() {
        Edges.sentence(19, "the one with which a PAIR's HOPE is greatest (of several the lowest); HOPE");
        String[] eggs = {"eb50;eb50;eb50", "eb49;eb50;eb50", "eb49;eb49;eb50;eb99", "eb99c1;eb1;eb49", "eb1;eb1;eb1;eb1;eb1;eb50"};
        int[] which = {0, 1, 2, 0, 5};
        int[] whole = {1, 1, 1, 0, 1};
        for (int i = 0; i < eggs.length; i++) {
            EggThrow x = Edges.meadow("mf60;p;p;" + eggs[i], "y:50");
            Edges.due("of " + eggs[i], x.which(1, 0, 0), which[i]);
            Edges.due("hope of " + eggs[i], x.which(10, 1, 1), (long) whole[i] * WHOLE);
        }
        EggThrow ends = Edges.meadow("mf60w1;p;p;eb1;eb50", "y:w=1?50;y:99");
        Edges.due("END of who throws first", ends.which(1, 0, 0), 1);
        Edges.due("END of who throws first", ends.which(1, 1, 0), 0);
        Edges.due("END of who throws first", ends.which(1, 1, 1), 0);
    }

    private static void whichRefused() {
        Edges.sentence(19, "NONE: no such ones");
        Edges.noSuchTwo(NONE, (x, v) -> x.which(v, 0, 0));
        Edges.noSuchEnd(NONE, (x, v) -> x.which(1, v, 0));
        Edges.noSuchWhat(NONE, (x, v) -> x.which(1, 0, v));
        Edges.sentence(19, "alike");
        Edges.alike(NONE, (x, v) -> x.which(v, 0, 0));
    }

    // ---- 20

    private static void witnessTwenty() {
        Edges.sentence(20, "how many there are");
        EggThrow x = Edges.meadow("p;p;e;e;e;e;e;e");
        for (int i = 1; i <= 20; i++) {
            Edges.due("one more", x.witness(i % 6, i == 1 ? 0 : 999, i % 2 == 0), i);
            Edges.due("counted", x.count(9), i);
        }
        Edges.sentence(20, "WITNESSED (20 at most)");
        Edges.due("a twenty-first", x.witness(0, 0, true), NONE);
        Edges.sentence(20, "there are 20");
        Edges.due("no more", x.witness(0, 0, true), NONE);
        Edges.due("no more of another", x.witness(5, 0, false), NONE);
        Edges.due("counted", x.count(9), 20);
        Edges.refused(Edges.FULL, NONE, new int[] {0, 5}, (y, v) -> y.witness(v, 3, true));
        Edges.refused(Edges.FULL, NONE, new int[] {0, 999}, (y, v) -> y.witness(1, v, false));
        Edges.tell(x, 0, "p;p;e");
        Edges.due("the count begins anew", x.witness(0, 0, true), 1);
    }

    private static void witnessRefused() {
        Edges.sentence(20, "NONE: no such EGG");
        Edges.refused(Edges.RICH, NONE, Edges.NO_EGG, (x, v) -> x.witness(v, 1, true));
        Edges.refused(Edges.BARE, NONE, new int[] {0, 1}, (x, v) -> x.witness(v, 1, false));
        Edges.done(Edges.RICH, NONE, Edges.LAST_EGG, (x, v) -> x.witness(v, 1, true));
        Edges.sentence(20, "out of bounds");
        Edges.refused(Edges.RICH, NONE, new int[] {-1, 1000, Edges.LOWEST, Edges.HIGHEST}, (x, v) -> x.witness(0, v, true));
        Edges.refused(Edges.RICH, NONE, new int[] {-1, 1000}, (x, v) -> x.witness(0, v, false));
        Edges.sentence(20, "an EGG bore a FORCE (0 .. 999), or broke");
        Edges.done(Edges.RICH, NONE, new int[] {0, 999}, (x, v) -> x.witness(0, v, true));
    }

    // ---- 21

    /** Of a whole or cracked egg: a force it bore (or NONE), one at which it broke (or NONE). */
    private static void strongIs(int cracked, int bore, int broke, int least, int greatest) {
        EggThrow x = Edges.meadow("p;p;e;eb7c" + cracked);
        x.witness(0, 999, true);
        x.witness(0, 0, false);
        if (bore != NONE) {
            x.witness(1, bore, true);
        }
        if (broke != NONE) {
            x.witness(1, broke, false);
        }
        String what = "cracked " + cracked + ", bore " + bore + ", broke " + broke + ": ";
        Edges.due(what + "how many", x.strong(1, 0), least == NONE ? 0 : greatest - least + 1);
        Edges.due(what + "the least", x.strong(1, 1), least);
        Edges.due(what + "the greatest", x.strong(1, 2), greatest);
    }

    private static void strongByOne() {
        Edges.sentence(21, "how many, the least, the greatest");
        EggThrow x = Edges.meadow("p;p;e;e");
        x.witness(0, 40, true);
        Edges.due("by the first alone", x.strong(0, 0), 60);
        Edges.due("of the other egg nothing", x.strong(1, 0), 99);
        for (int i = 2; i <= 19; i++) {
            x.witness(1, 999, true);
        }
        x.witness(0, 60, false);
        Edges.due("by the first and the twentieth", x.strong(0, 0), 20);
        Edges.due("the least", x.strong(0, 1), 40);
        Edges.due("the greatest", x.strong(0, 2), 59);
    }

    private static void strongWithin() {
        Edges.sentence(21, "by how much BEARS (1 .. 99) all WITNESSED of it could be so");
        strongIs(0, NONE, NONE, 1, 99);
        strongIs(0, 0, NONE, 1, 99);
        strongIs(0, 1, NONE, 1, 99);
        strongIs(0, 2, NONE, 2, 99);
        strongIs(0, 99, NONE, 99, 99);
        strongIs(0, NONE, 100, 1, 99);
        strongIs(0, NONE, 999, 1, 99);
        strongIs(0, NONE, 99, 1, 98);
        strongIs(0, NONE, 2, 1, 1);
        strongIs(0, 30, 31, 30, 30);
        Edges.sentence(21, "NONE both: none");
        strongIs(0, 100, NONE, NONE, NONE);
        strongIs(0, 999, NONE, NONE, NONE);
        strongIs(0, NONE, 1, NONE, NONE);
        strongIs(0, NONE, 0, NONE, NONE);
        strongIs(0, 30, 30, NONE, NONE);
        strongIs(0, 31, 30, NONE, NONE);
    }

    private static void strongCracked() {
        Edges.sentence(21, "(CRACKED as told)");
        strongIs(1, NONE, NONE, 1, 99);
        strongIs(1, 0, NONE, 1, 99);
        strongIs(1, 1, NONE, 2, 99);
        strongIs(1, 49, NONE, 98, 99);
        strongIs(1, 50, NONE, NONE, NONE);
        strongIs(1, NONE, 50, 1, 99);
        strongIs(1, NONE, 49, 1, 97);
        strongIs(1, NONE, 1, 1, 1);
        strongIs(1, NONE, 0, NONE, NONE);
        strongIs(1, 20, 21, 40, 41);
    }

    private static void strongRefused() {
        Edges.sentence(21, "HIDDEN: no such ones");
        Edges.noSuchEgg(HIDDEN, (x, v) -> x.strong(v, 0));
        Edges.refused(Edges.RICH, HIDDEN, new int[] {-1, 3, 4, Edges.LOWEST, Edges.HIGHEST}, (x, v) -> x.strong(0, v));
        Edges.taken(Edges.RICH, HIDDEN, new int[] {0, 1, 2}, (x, v) -> x.strong(0, v));
    }
}
