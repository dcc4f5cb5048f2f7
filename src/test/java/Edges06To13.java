/** The boundaries of promises 6 to 13: what was told, and one throw. */
final class Edges06To13 {
    private static final int NONE = Edges.NONE;
    private static final int HIDDEN = Edges.HIDDEN;

    private Edges06To13() {
    }

    static void hold() {
        persons();
        eggs();
        lawsThatHold();
        lawsRefused();
        setsWithin();
        setsAreFelt();
        setsRefused();
        offsFromTerms();
        offsRefused();
        forcesFromTerms();
        forcesByLaw();
        numbersOfLaws();
        divisionsOfLaws();
        clausesOfLaws();
        forcesRefused();
        goodDropped();
        goodBears();
        goodRefused();
        bestOfSeveral();
        bestRefused();
    }

    // ---- 6, 7

    private static void persons() {
        Edges.sentence(6, "0 SLIP, 1 ARM, 2 RUN, 3 the highest BOW");
        EggThrow x = Edges.meadow("p;p;p;p;p;pl2a7r4b9;e");
        int[] due = {2, 7, 4, 9};
        for (int what = 0; what < 4; what++) {
            Edges.due("of the sixth", x.person(5, what), due[what]);
        }
        Edges.taken(Edges.RICH, Edges.THROWN, new int[] {0, 1, 2, 3}, (y, v) -> Edges.person(y, v, 0));
        Edges.taken(Edges.RICH, Edges.THROWN, new int[] {0, 1, 2, 3}, (y, v) -> Edges.person(y, 3, v));
        Edges.sentence(6, "NoSuchElementException: no such ones.");
        Edges.refused(Edges.RICH, Edges.THROWN, Edges.NO_PERSON, (y, v) -> Edges.person(y, v, 0));
        Edges.refused(Edges.RICH, Edges.THROWN, new int[] {-1, 4, Edges.LOWEST, Edges.HIGHEST},
                (y, v) -> Edges.person(y, 0, v));
        Edges.refused(Edges.FULL, Edges.THROWN, new int[] {-1, 6, 7}, (y, v) -> Edges.person(y, v, 3));
        Edges.refused(Edges.of("p;p;e"), Edges.THROWN, new int[] {2, 3, 5}, (y, v) -> Edges.person(y, v, 0));
        Edges.refused(Edges.BARE, Edges.THROWN, new int[] {-1, 0, 1}, (y, v) -> Edges.person(y, v, 0));
    }

    private static void eggs() {
        Edges.sentence(7, "0 BEARS, 1 CRACKED");
        EggThrow x = Edges.meadow("e;e;e;e;e;eb99c1;p;p");
        Edges.due("of the sixth", x.egg(5, 0), 99);
        Edges.due("of the sixth", x.egg(5, 1), 1);
        Edges.taken(Edges.RICH, NONE, Edges.LAST_EGG, (y, v) -> y.egg(v, 0));
        Edges.taken(Edges.RICH, NONE, Edges.BOTH_WHATS, (y, v) -> y.egg(2, v));
        Edges.sentence(7, "NONE: no such ones.");
        Edges.refused(Edges.RICH, NONE, Edges.NO_EGG, (y, v) -> y.egg(v, 0));
        Edges.refused(Edges.RICH, NONE, Edges.NO_WHAT, (y, v) -> y.egg(0, v));
        Edges.refused(Edges.FULL, NONE, new int[] {-1, 6, 7}, (y, v) -> y.egg(v, 1));
        Edges.refused(Edges.of("p;p;p;e"), NONE, new int[] {1, 2}, (y, v) -> y.egg(v, 0));
        Edges.refused(Edges.BARE, NONE, new int[] {-1, 0, 1}, (y, v) -> y.egg(v, 0));
    }

    // ---- 8

    private static void lawsThatHold() {
        Edges.sentence(8, "The LAW that holds (NONE: none).");
        EggThrow x = Edges.FULL.made();
        for (int law = 3; law >= 0; law--) {
            Edges.due("law " + law, x.law(law), true);
            Edges.due("it holds", x.count(8), law);
            Edges.due("by it", x.force(0, 0, 9, 9, 0), 9 + law);
            Edges.due("a best by it", x.best(1, 0, 30 - law, 2), 3);
            Edges.due("a best by it", x.best(1, 0, 31 - law, 2), 0);
            Edges.due("the same again", x.law(law), true);
        }
        Edges.due("none", x.law(NONE), true);
        Edges.due("none holds", x.count(8), NONE);
        Edges.due("none again", x.law(NONE), true);
        Edges.due("without one", x.force(0, 0, 4, 1, 0), 8 - 6 - 1);
        Edges.due("none where there are none", Edges.meadow("p;p;e").law(NONE), true);
    }

    private static void lawsRefused() {
        Edges.sentence(8, "False: no such one");
        Edges.refused(Edges.RICH, 0, new int[] {2, 3, 4, -2, Edges.LOWEST, Edges.HIGHEST}, (x, v) -> Edges.bit(x.law(v)));
        Edges.refused(Edges.FULL, 0, new int[] {4, 5, -2}, (x, v) -> Edges.bit(x.law(v)));
        Edges.refused(Edges.of("p;p;e"), 0, new int[] {0, 1, -2}, (x, v) -> Edges.bit(x.law(v)));
        Edges.done(Edges.RICH, 0, new int[] {NONE, 0, 1}, (x, v) -> Edges.bit(x.law(v)));
        Edges.sentence(8, "no MEADOW");
        Edges.refused(Edges.BARE, 0, new int[] {NONE, 0, 1, -2}, (x, v) -> Edges.bit(x.law(v)));
    }

    // ---- 9

    private static final int[] LEAST = {0, 0, 1, 1};
    private static final int[] MOST = {9, 1, 9, 60};

    private static void setsWithin() {
        Edges.sentence(9, "WIND (what 0), its END (1), STEP (2), FROM (3).");
        EggThrow x = Edges.meadow("md0;p;p;e");
        int[] now = {0, 0, 2, 4};
        for (int what = 0; what < 4; what++) {
            for (int v = LEAST[what]; v <= MOST[what]; v++) {
                Edges.due("set " + what + " to " + v, x.set(what, v), v != now[what]);
                now[what] = v;
                for (int i = 0; i < 4 && v % 10 == 1; i++) {
                    Edges.due("told", x.count(4 + i), now[i]);
                }
            }
        }
        EggThrow y = Edges.meadow("p;p;e");
        Edges.due("calm", y.best(1, 0, 18, 2), 1);
        y.set(0, 1);
        Edges.due("a best by the wind", y.best(1, 0, 18, 2), 2);
        y.set(1, 1);
        Edges.due("a best by its end", y.best(1, 0, 18, 2), 0);
        y.set(0, 0);
        Edges.due("calm again", y.best(1, 0, 18, 2), 1);
    }

    /** Whatever was asked before: all is as in a meadow that was told so. */
    private static void setsAreFelt() {
        Edges.sentence(9, "By hand WIND, its END, STEP, FROM are told.");
        EggThrow x = Edges.meadow("p;pl2a5r2;e;eb60");
        int[][] sets = {{0, 1}, {2, 3}, {2, 1}, {1, 1}, {3, 1}, {3, 9}, {2, 9}, {0, 9}, {0, 2}, {1, 0}, {2, 2}};
        int[] now = {0, 0, 2, 4};
        for (int[] set : sets) {
            x.set(set[0], set[1]);
            now[set[0]] = set[1];
            EggThrow told = Edges.meadow("mw" + now[0] + "d" + now[1] + "s" + now[2] + "f" + now[3] + ";p;pl2a5r2;e;eb60");
            for (int egg = 0; egg <= 11; egg++) {
                if (egg % 10 <= 1) {
                    Edges.due("hope", x.hope(1, egg), told.hope(1, egg));
                    Edges.due("calm", x.calm(1, egg, 1), told.calm(1, egg, 1));
                    Edges.due("calm", x.calm(10, egg, 0), told.calm(10, egg, 0));
                    Edges.due("gusty", x.gusty(1, egg, 9), told.gusty(1, egg, 9));
                    Edges.due("stride", x.stride(1, egg, 1), told.stride(1, egg, 1));
                    Edges.due("good", x.good(1, egg, 9, 305), told.good(1, egg, 9, 305));
                }
            }
        }
    }

    private static void setsRefused() {
        Edges.sentence(9, "False: no MEADOW");
        for (int what = 0; what < 4; what++) {
            int of = what;
            Edges.refused(Edges.BARE, 0, new int[] {0, 1, 2, 4}, (x, v) -> Edges.bit(x.set(of, v)));
        }
        Edges.sentence(9, "out of bounds");
        for (int what = 0; what < 4; what++) {
            int of = what;
            Edges.refused(Edges.RICH, 0, new int[] {LEAST[what] - 1, MOST[what] + 1, -1, 100, Edges.LOWEST, Edges.HIGHEST},
                    (x, v) -> Edges.bit(x.set(of, v)));
            Edges.done(Edges.RICH, 0, new int[] {what == 1 ? 0 : LEAST[what], what == 1 ? 0 : MOST[what]},
                    (x, v) -> Edges.bit(x.set(of, v)));
        }
        Edges.refused(Edges.RICH, 0, new int[] {-1, 4, 5, Edges.LOWEST, Edges.HIGHEST}, (x, v) -> Edges.bit(x.set(v, 1)));
        Edges.sentence(9, "it is so");
        int[] now = {2, 1, 4, 6};
        for (int what = 0; what < 4; what++) {
            int of = what;
            Edges.refused(Edges.RICH, 0, new int[] {now[what]}, (x, v) -> Edges.bit(x.set(of, v)));
        }
    }

    // ---- 10

    private static void offsFromTerms() {
        Edges.sentence(10, "BLOWS is WIND, if that END is the WIND's, else less WIND.");
        for (int end = 0; end < 2; end++) {
            EggThrow x = Edges.meadow("mw4d" + end + ";p;p;e");
            Edges.due("from its end", x.off(0, end, 1, 0, 0), 1);
            Edges.due("from the other", x.off(0, 1 - end, 1, 0, 0), -1);
        }
        EggThrow calm = Edges.meadow("p;p;e");
        Edges.due("no wind", calm.off(0, 0, 5, 0, 0), 0);
        Edges.due("no wind", calm.off(0, 1, 5, 0, 0), 0);
        Edges.sentence(10, "BLOWS times BOW by 4 (cut towards 0) together (above 0: too far)");
        EggThrow x = Edges.meadow("mw9;pl5b9;pl0b0;e");
        for (int bow = 0; bow <= 9; bow++) {
            Edges.due("with bow " + bow, x.off(0, 0, bow, 0, 0), 9 * bow / 4);
            Edges.due("against, with bow " + bow, x.off(0, 1, bow, 0, 0), -(9 * bow / 4));
        }
        Edges.due("the farthest", x.off(0, 0, 9, 5, 5), 30);
        Edges.due("the nearest", x.off(0, 1, 9, -5, -5), -30);
        EggThrow light = Edges.meadow("mw3;pb9;p;e");
        Edges.due("3 by 4", light.off(0, 0, 1, 0, 0), 0);
        Edges.due("-3 by 4", light.off(0, 1, 1, 0, 0), 0);
        Edges.due("cut ahead of the sum", light.off(0, 1, 1, 1, 0), 1);
        Edges.due("-6 by 4", light.off(0, 1, 2, 0, 0), -1);
    }

    private static void offsRefused() {
        Edges.sentence(10, "HIDDEN: no such ones");
        Edges.refused(Edges.RICH, HIDDEN, Edges.NO_PERSON, (x, v) -> x.off(v, 0, 0, 0, 0));
        Edges.taken(Edges.RICH, HIDDEN, new int[] {0, 3}, (x, v) -> x.off(v, 0, 0, 0, 0));
        Edges.refused(Edges.RICH, HIDDEN, Edges.NO_END, (x, v) -> x.off(0, v, 0, 0, 0));
        Edges.taken(Edges.RICH, HIDDEN, Edges.BOTH_ENDS, (x, v) -> x.off(0, v, 0, 0, 0));
        Edges.refused(Edges.BARE, HIDDEN, Edges.BOTH_ENDS, (x, v) -> x.off(v, 0, 0, 0, 0));
        Edges.sentence(10, "out of bounds");
        Edges.refused(Edges.RICH, HIDDEN, x -> x.off(0, 0, 8, 0, 0), x -> x.off(0, 0, 0, 6, 0), x -> x.off(0, 0, 0, 0, 3));
        Edges.sentence(10, "a BOW (0 .. the highest of who throws)");
        Edges.refused(Edges.RICH, HIDDEN, new int[] {-1, 8, 9, Edges.LOWEST, Edges.HIGHEST}, (x, v) -> x.off(0, 0, v, 0, 0));
        Edges.taken(Edges.RICH, HIDDEN, new int[] {0, 7}, (x, v) -> x.off(0, 0, v, 0, 0));
        Edges.refused(Edges.RICH, HIDDEN, new int[] {6, 7}, (x, v) -> x.off(1, 0, v, 0, 0));
        Edges.taken(Edges.RICH, HIDDEN, new int[] {5}, (x, v) -> x.off(1, 0, v, 0, 0));
        Edges.refused(Edges.of("pb0;pb9;e"), HIDDEN, new int[] {-1, 1}, (x, v) -> x.off(0, 0, v, 0, 0));
        Edges.sentence(10, "an AIM (-5 .. 5)");
        Edges.refused(Edges.RICH, HIDDEN, new int[] {-6, 6, Edges.LOWEST, Edges.HIGHEST}, (x, v) -> x.off(0, 0, 0, v, 0));
        Edges.taken(Edges.RICH, HIDDEN, new int[] {-5, 5}, (x, v) -> x.off(0, 0, 0, v, 0));
        Edges.sentence(10, "a slip (-SLIP .. SLIP of who throws, each alike)");
        Edges.refused(Edges.RICH, HIDDEN, new int[] {-3, 3, Edges.LOWEST, Edges.HIGHEST}, (x, v) -> x.off(0, 0, 0, 0, v));
        Edges.taken(Edges.RICH, HIDDEN, new int[] {-2, 2}, (x, v) -> x.off(0, 0, 0, 0, v));
        Edges.refused(Edges.RICH, HIDDEN, new int[] {-1, 1}, (x, v) -> x.off(1, 0, 0, 0, v));
        Edges.taken(Edges.RICH, HIDDEN, new int[] {0}, (x, v) -> x.off(1, 0, 0, 0, v));
        Edges.refused(Edges.of("pl5;p;e"), HIDDEN, new int[] {-6, 6}, (x, v) -> x.off(0, 0, 0, 0, v));
        Edges.taken(Edges.of("pl5;p;e"), HIDDEN, new int[] {-5, 5}, (x, v) -> x.off(0, 0, 0, 0, v));
    }

    // ---- 11

    private static void forcesFromTerms() {
        Edges.sentence(11, "twice the YARDS and three times how far BOW is from YARDS by 4 (cut)");
        EggThrow x = Edges.meadow("pa0;pa9;e");
        for (int yards = 1; yards <= 60; yards++) {
            Edges.due("over " + yards, x.force(0, 0, yards, 3, 0), 2 * yards + 3 * Math.abs(3 - yards / 4));
        }
        Edges.due("bow 0 over 3", x.force(0, 0, 3, 0, 0), 6);
        Edges.due("bow 0 over 4", x.force(0, 0, 4, 0, 0), 11);
        Edges.due("bow 1 over 3", x.force(0, 0, 3, 1, 0), 9);
        Edges.due("bow 9 over 60", x.force(0, 0, 60, 9, 0), 138);
        Edges.due("bow 9 over 1", x.force(0, 0, 1, 9, 0), 29);
        Edges.sentence(11, "OFF if it is above 0, else three times OFF without its sign");
        Edges.due("0", x.force(0, 0, 1, 0, 0), 2);
        Edges.due("1", x.force(0, 0, 1, 0, 1), 3);
        Edges.due("-1", x.force(0, 0, 1, 0, -1), 5);
        Edges.due("99", x.force(0, 0, 1, 0, 99), 101);
        Edges.due("-99", x.force(0, 0, 1, 0, -99), 299);
        Edges.sentence(11, "less twice ARM, less BLOWS");
        for (int arm = 0; arm <= 9; arm++) {
            EggThrow y = Edges.meadow("mw9;pa" + arm + ";p;e");
            Edges.due("with arm " + arm, y.force(0, 0, 30, 7, 0), 60 - 2 * arm - 9);
            Edges.due("from the other end", y.force(0, 1, 30, 7, 0), 60 - 2 * arm + 9);
        }
        Edges.sentence(11, "held within 0 .. 999");
        Edges.due("-16", x.force(1, 0, 1, 0, 0), 0);
        Edges.due("-1", x.force(1, 0, 8, 2, 1), 0);
        Edges.due("0", x.force(1, 0, 9, 2, 0), 0);
        Edges.due("1", x.force(1, 0, 9, 2, 1), 1);
        Edges.due("the most without a law", Edges.meadow("mw9;pa0;p;e").force(0, 1, 60, 0, -99), 120 + 45 + 9 + 297);
        Edges.due("999", by("y:999", 1, 0, 0), 999);
        Edges.due("1000", by("y:1000", 1, 0, 0), 999);
        Edges.due("998", by("y:998", 1, 0, 0), 998);
        Edges.due("a million", by("y:9999*9999", 1, 0, 0), 999);
        Edges.due("-1", by("y:0-1", 1, 0, 0), 0);
        Edges.due("less a million", by("y:0-9999*9999", 1, 0, 0), 0);
    }

    /** FORCE by a law over these yards, from END 0 with WIND 9 of END 1, who catches has ARM 7. */
    private static int by(String law, int yards, int bow, int off) {
        return Edges.meadow("mw9d1;p;p;p;pa7;e", law).force(3, 0, yards, bow, off);
    }

    private static void forcesByLaw() {
        Edges.sentence(11, "letters: d YARDS, b BOW, a ARM of who catches, w BLOWS, r OFF");
        Edges.due("d", by("y:d", 60, 0, 0), 60);
        Edges.due("d", by("y:d", 1, 0, 0), 1);
        Edges.due("b", by("y:b", 1, 9, 0), 9);
        Edges.due("b", by("y:b+5", 1, 0, 0), 5);
        Edges.due("a", by("y:a", 1, 0, 0), 7);
        Edges.due("w", by("y:0-w", 1, 0, 0), 9);
        Edges.due("w from the wind's end", Edges.meadow("mw9d1;p;p;e", "y:w").force(0, 1, 1, 0, 0), 9);
        Edges.due("r", by("y:r", 1, 0, 99), 99);
        Edges.due("r", by("y:0-r", 1, 0, -99), 99);
    }

    private static void numbersOfLaws() {
        Edges.sentence(11, "Behind each sign numbers are within -1,000,000 .. 1,000,000");
        Edges.due("a million by +", by("y:1000*999+1000-[1000*999]-997", 1, 0, 0), 3);
        Edges.due("one more by +", by("y:1000*999+1001-[1000*999]-997", 1, 0, 0), 3);
        Edges.due("one fewer by +", by("y:1000*999+999-[1000*999]-997", 1, 0, 0), 2);
        Edges.due("less a million by -", by("y:0-[1000*999]-1000+[1000*999]+1003", 1, 0, 0), 3);
        Edges.due("one more by -", by("y:0-[1000*999]-1001+[1000*999]+1003", 1, 0, 0), 3);
        Edges.due("one fewer by -", by("y:0-[1000*999]-999+[1000*999]+1003", 1, 0, 0), 4);
        Edges.due("a million by *", by("y:1000*1000/2000", 1, 0, 0), 500);
        Edges.due("more by *", by("y:1000*1002/2000", 1, 0, 0), 500);
        Edges.due("fewer by *", by("y:1000*998/2000", 1, 0, 0), 499);
        Edges.due("less a million by *", by("y:0-[[0-1000]*1000/2000]", 1, 0, 0), 500);
        Edges.due("more by *", by("y:0-[[0-1000]*1002/2000]", 1, 0, 0), 500);
        Edges.due("fewer by *", by("y:0-[[0-1000]*998/2000]", 1, 0, 0), 499);
        Edges.due("a million times a million", by("y:[1000*1000]*[1000*1000]/2000", 1, 0, 0), 500);
        Edges.due("a million times less a million", by("y:0-[1000*1000]*[0-1000*1000]/2000", 1, 0, 0), 500);
        Edges.due("behind each sign", by("y:9999*9999/1000*2/4", 1, 0, 0), 500);
        Edges.due("in a condition", by("y:1000*1000+1=1000*1000?5;y:6", 1, 0, 0), 5);
        Edges.due("in a condition", by("y:1000*1000>999*1000+999?5;y:6", 1, 0, 0), 5);
        Edges.due("in a condition", by("y:0-1000*1000-1<0-1000*1000?5;y:6", 1, 0, 0), 6);
    }

    private static void divisionsOfLaws() {
        Edges.sentence(11, "/ cuts towards 0, by 0 gives 0");
        Edges.due("7/2", by("y:7/2", 1, 0, 0), 3);
        Edges.due("-7/2", by("y:10+[0-7]/2", 1, 0, 0), 7);
        Edges.due("7/-2", by("y:10+7/[0-2]", 1, 0, 0), 7);
        Edges.due("-7/-2", by("y:10+[0-7]/[0-2]", 1, 0, 0), 13);
        Edges.due("1/2", by("y:10+1/2", 1, 0, 0), 10);
        Edges.due("-1/2", by("y:10+[0-1]/2", 1, 0, 0), 10);
        Edges.due("7/0", by("y:10+7/0", 1, 0, 0), 10);
        Edges.due("0/0", by("y:10+0/0", 1, 0, 0), 10);
        Edges.due("-7/0", by("y:10+[0-7]/0", 1, 0, 0), 10);
        Edges.due("7/0*5", by("y:10+7/0*5", 1, 0, 0), 10);
        Edges.due("7/b", by("y:7/b", 1, 0, 0), 0);
        Edges.due("a million by less a million", by("y:10+[1000*1000]/[0-1000*1000]", 1, 0, 0), 9);
        Edges.due("from left to right", by("y:100/7/2", 1, 0, 0), 7);
        Edges.due("from left to right", by("y:2-3+4", 1, 0, 0), 3);
    }

    private static void clausesOfLaws() {
        Edges.sentence(11, "the SUM of the first CLAUSE whose CONDITION holds (or has none), 0 without");
        Edges.due("the first", by("y:1=1?5;y:1=1?6;y:7", 1, 0, 0), 5);
        Edges.due("the second", by("y:1=2?5;y:1=1?6;y:7", 1, 0, 0), 6);
        Edges.due("the last", by("y:1=2?5;y:1=2?6;y:7", 1, 0, 0), 7);
        Edges.due("none behind one without", by("y:7;y:1=1?6", 1, 0, 0), 7);
        Edges.due("none holds", by("y:1=2?5;y:1=2?6", 1, 0, 0), 0);
        StringBuilder many = new StringBuilder();
        for (int i = 1; i <= 19; i++) {
            many.append(i > 1 ? ";" : "").append("y:d=").append(i % 10).append("?").append(i % 10);
        }
        Edges.due("of many", by(many.toString(), 9, 0, 0), 9);
        Edges.due("of many none", by(many.toString(), 10, 0, 0), 0);
        Edges.due("the longest", by("y:" + Edges.repeated("1", 78, "+") + "+90", 1, 0, 0), 78 + 90);
        Edges.sentence(11, "one of = < >");
        for (int d = 6; d <= 8; d++) {
            Edges.due("d=7 of " + d, by("y:d=7?1", d, 0, 0), d == 7 ? 1 : 0);
            Edges.due("d<7 of " + d, by("y:d<7?1", d, 0, 0), d < 7 ? 1 : 0);
            Edges.due("d>7 of " + d, by("y:d>7?1", d, 0, 0), d > 7 ? 1 : 0);
            Edges.due("not d=7 of " + d, by("y:!d=7?1", d, 0, 0), d == 7 ? 0 : 1);
            Edges.due("not d<7 of " + d, by("y:!d<7?1", d, 0, 0), d < 7 ? 0 : 1);
            Edges.due("not d>7 of " + d, by("y:!d>7?1", d, 0, 0), d > 7 ? 0 : 1);
            Edges.due("d<7 twice of " + d, by("y:!!d<7&!!d<7?1", d, 0, 0), d < 7 ? 1 : 0);
        }
        Edges.sentence(11, "CONDITION: TRUTHS with | between; TRUTH: UNITS with & between");
        for (int bits = 0; bits < 8; bits++) {
            String[] unit = new String[3];
            boolean[] truth = new boolean[3];
            for (int i = 0; i < 3; i++) {
                truth[i] = (bits >> i & 1) == 1;
                unit[i] = truth[i] ? "1=1" : "1=2";
            }
            Edges.due("a|b&c", by("y:" + unit[0] + "|" + unit[1] + "&" + unit[2] + "?1", 1, 0, 0),
                    truth[0] || truth[1] && truth[2] ? 1 : 0);
            Edges.due("a&b|c", by("y:" + unit[0] + "&" + unit[1] + "|" + unit[2] + "?1", 1, 0, 0),
                    truth[0] && truth[1] || truth[2] ? 1 : 0);
            Edges.due("(a|b)&c", by("y:(" + unit[0] + "|" + unit[1] + ")&" + unit[2] + "?1", 1, 0, 0),
                    (truth[0] || truth[1]) && truth[2] ? 1 : 0);
            Edges.due("!a&b|c", by("y:!" + unit[0] + "&" + unit[1] + "|" + unit[2] + "?1", 1, 0, 0),
                    !truth[0] && truth[1] || truth[2] ? 1 : 0);
            Edges.due("!(a|b)|c", by("y:!(" + unit[0] + "|" + unit[1] + ")|" + unit[2] + "?1", 1, 0, 0),
                    !(truth[0] || truth[1]) || truth[2] ? 1 : 0);
        }
        Edges.sentence(11, "At most six of ( [ ! within one another.");
        String deep = "1+1*[1+1*[1+1*[1+1*[1+1*[1+1*[1+1*1]]]]]]";
        Edges.due("six of [ with all that waits", by("y:1=2|1=1&1+1*1<" + deep + "?" + deep, 1, 0, 0), 8);
        String inner = "(1=2|1=1&(1=2|1=1&(1=2|1=1&(1=2|1=1&(1=2|1=1&(1=2|1=1&1<1+1*2))))))";
        Edges.due("six of ( with all that waits", by("y:1=2|1=1&" + inner + "?4", 1, 0, 0), 4);
        Edges.due("six of !", by("y:!!!!!!1=1?4;y:5", 1, 0, 0), 4);
        Edges.due("five of !", by("y:!!!!!1=1?4;y:5", 1, 0, 0), 5);
    }

    private static void forcesRefused() {
        Edges.sentence(11, "HIDDEN: no such ones");
        Edges.refused(Edges.RICH, HIDDEN, Edges.NO_PERSON, (x, v) -> x.force(v, 0, 1, 0, 0));
        Edges.taken(Edges.RICH, HIDDEN, new int[] {0, 3}, (x, v) -> x.force(v, 0, 1, 0, 0));
        Edges.refused(Edges.RICH, HIDDEN, Edges.NO_END, (x, v) -> x.force(0, v, 1, 0, 0));
        Edges.taken(Edges.RICH, HIDDEN, Edges.BOTH_ENDS, (x, v) -> x.force(0, v, 1, 0, 0));
        Edges.refused(Edges.BARE, HIDDEN, Edges.BOTH_ENDS, (x, v) -> x.force(v, 0, 1, 0, 0));
        Edges.sentence(11, "out of bounds");
        Edges.refused(Edges.RICH, HIDDEN, Edges.NO_YARDS, (x, v) -> x.force(0, 0, v, 0, 0));
        Edges.sentence(11, "YARDS 1 .. 60, BOW 0 .. 9, OFF -99 .. 99; from an END, by who catches");
        Edges.taken(Edges.RICH, HIDDEN, Edges.LAST_YARDS, (x, v) -> x.force(0, 0, v, 0, 0));
        Edges.refused(Edges.RICH, HIDDEN, new int[] {-1, 10, Edges.LOWEST, Edges.HIGHEST}, (x, v) -> x.force(0, 0, 1, v, 0));
        Edges.taken(Edges.RICH, HIDDEN, new int[] {0, 9}, (x, v) -> x.force(0, 0, 1, v, 0));
        Edges.taken(Edges.of("pb0;pb0;e"), HIDDEN, new int[] {0, 9}, (x, v) -> x.force(0, 0, 1, v, 0));
        Edges.refused(Edges.RICH, HIDDEN, new int[] {-100, 100, Edges.LOWEST, Edges.HIGHEST},
                (x, v) -> x.force(0, 0, 1, 0, v));
        Edges.taken(Edges.RICH, HIDDEN, new int[] {-99, 99}, (x, v) -> x.force(0, 0, 1, 0, v));
    }

    // ---- 12

    private static void goodDropped() {
        Edges.sentence(12, "if OFF without its sign is more than RUN, it is DROPPED (and breaks)");
        for (int run = 0; run <= 5; run++) {
            EggThrow x = Edges.meadow("pl0;pl5r" + run + ";e", "y:0");
            for (int aim = -5; aim <= 5; aim++) {
                Edges.due("run " + run + ", off " + aim, x.good(1, 0, 1, aim + 5), Math.abs(aim) <= run ? 1 : 0);
            }
        }
        EggThrow far = Edges.meadow("mw9;pl5b9;pr5;e", "y:0");
        Edges.due("the wind takes it away", far.good(1, 0, 1, 905), 0);
        Edges.due("it comes down at 15 less 5, and more", far.good(1, 0, 1, 900), 0);
        Edges.due("and from the other end", far.good(1, 1, 1, 910), 0);
        Edges.due("the aim does not bring it back", far.good(1, 0, 1, 410), 0);
        Edges.due("9 by 4 is 2", far.good(1, 0, 1, 103), 11);
        Edges.due("from the other end", far.good(1, 1, 1, 107), 11);
        // BOW b carries it off by b beyond the farthest AIM: of eleven slips those that come back to 5
        EggThrow wide = Edges.meadow("mw4;pl5b9;pr5;e", "y:0");
        for (int bow = 0; bow <= 9; bow++) {
            Edges.due("too far by BOW " + bow, wide.good(1, 0, 1, 100 * bow + 10), Math.max(0, 6 - bow));
            Edges.due("too near by BOW " + bow, wide.good(1, 1, 1, 100 * bow), Math.max(0, 6 - bow));
            Edges.due("back by BOW " + bow, wide.good(1, 0, 1, 100 * bow), 11 - Math.abs(bow - 5));
            Edges.due("back by BOW " + bow, wide.good(1, 1, 1, 100 * bow + 10), 11 - Math.abs(bow - 5));
        }
        Edges.sentence(12, "GOOD: of how many slips a THROW is caught whole.");
        for (int slip = 0; slip <= 5; slip++) {
            EggThrow x = Edges.meadow("pl" + slip + ";pr5;pr0;e", "y:0");
            Edges.due("all", x.good(1, 0, 1, 5), 2 * slip + 1);
            Edges.due("one", x.good(2, 0, 1, 5), 1);
            Edges.due("from the edge", x.good(1, 0, 1, 10), slip + 1);
            Edges.due("from the other edge", x.good(1, 0, 1, 0), slip + 1);
        }
        for (int bow = 0; bow <= 9; bow++) {
            EggThrow x = Edges.meadow("pl0b9;pr5;e", "y:b=" + bow + "?0;y:99");
            for (int other = 0; other <= 9; other++) {
                Edges.due("BOW " + other + " by " + bow, x.good(1, 0, 1, 100 * other), other == bow ? 1 : 0);
                Edges.due("BOW " + other + " by " + bow, x.good(1, 0, 1, 100 * other + 10), other == bow ? 1 : 0);
            }
        }
        Edges.due("none at the edge", Edges.meadow("pl4;pr0;e", "y:0").good(1, 0, 1, 10), 0);
        Edges.due("the last at the edge", Edges.meadow("pl5;pr0;e", "y:0").good(1, 0, 1, 10), 1);
        Edges.due("the last at the edge", Edges.meadow("pl5;pr0;e", "y:0").good(1, 0, 1, 0), 1);
    }

    private static void goodBears() {
        Edges.sentence(12, "An EGG bears FORCE up to BEARS");
        int[] bears = {1, 2, 30, 59, 60};
        for (int b : bears) {
            EggThrow x = Edges.meadow("p;p;eb" + b, "y:d");
            Edges.due("up to " + b, x.good(1, 0, b, 5), 3);
            Edges.due("over " + b, b == 60 ? 0 : x.good(1, 0, b + 1, 5), 0);
        }
        EggThrow most = Edges.meadow("p;p;eb99;eb98", "y:d+39");
        Edges.due("99", most.good(1, 0, 60, 5), 3);
        Edges.due("98", most.good(1, 10, 60, 5), 0);
        Edges.sentence(12, "CRACKED: up to half of it, cut");
        int[] cracked = {1, 2, 3, 98, 99};
        for (int b : cracked) {
            EggThrow x = Edges.meadow("p;p;eb" + b + "c1", "y:d-1");
            Edges.due("half of " + b, x.good(1, 0, b / 2 + 1, 5), 3);
            Edges.due("over half of " + b, x.good(1, 0, b / 2 + 2, 5), 0);
        }
    }

    private static void goodRefused() {
        Edges.sentence(12, "NONE: no such ones");
        Edges.refused(Edges.RICH, NONE, Edges.NO_TWO, (x, v) -> x.good(v, 0, 4, 5));
        Edges.taken(Edges.RICH, NONE, Edges.LAST_TWO, (x, v) -> x.good(v, 0, 4, 5));
        Edges.refused(Edges.RICH, NONE, Edges.NO_EGG_END, (x, v) -> x.good(1, v, 4, 5));
        Edges.taken(Edges.RICH, NONE, Edges.LAST_EGG_END, (x, v) -> x.good(1, v, 4, 5));
        Edges.refused(Edges.BARE, NONE, Edges.LAST_TWO, (x, v) -> x.good(v, 0, 4, 5));
        Edges.sentence(12, "alike");
        Edges.refused(Edges.RICH, NONE, Edges.ALIKE, (x, v) -> x.good(v, 0, 4, 5));
        Edges.sentence(12, "out of bounds");
        Edges.refused(Edges.RICH, NONE, Edges.NO_YARDS, (x, v) -> x.good(1, 0, v, 5));
        Edges.taken(Edges.RICH, NONE, Edges.LAST_YARDS, (x, v) -> x.good(1, 0, v, 5));
        Edges.sentence(12, "100 times the BOW, and the AIM and 5");
        int[] wrong = {-1, -95, -100, Edges.LOWEST, 11, 50, 99, 111, 199, 711, 799, 800, 805, 810, 905, 1005,
            Edges.HIGHEST};
        Edges.refused(Edges.RICH, NONE, wrong, (x, v) -> x.good(1, 0, 4, v));
        Edges.taken(Edges.RICH, NONE, new int[] {0, 10, 100, 110, 700, 710}, (x, v) -> x.good(1, 0, 4, v));
        Edges.refused(Edges.RICH, NONE, new int[] {600, 605, 610, 705}, (x, v) -> x.good(10, 0, 4, v));
        Edges.taken(Edges.RICH, NONE, new int[] {500, 510}, (x, v) -> x.good(10, 0, 4, v));
    }

    // ---- 13

    private static void bestIs(EggThrow x, int two, int yards, int bow, int aim, int good) {
        Edges.due("the bow over " + yards, x.best(two, 0, yards, 0), bow);
        Edges.due("the aim over " + yards, x.best(two, 0, yards, 1), aim);
        Edges.due("good over " + yards, x.best(two, 0, yards, 2), good);
    }

    private static void bestOfSeveral() {
        Edges.sentence(13, "the BOW and AIM that are GOOD for the most slips (of several the least BOW, then the least AIM)");
        bestIs(Edges.meadow("pl0;pr5;e", "y:0"), 1, 1, 0, -5, 1);
        bestIs(Edges.meadow("pl0b0;pr4;e", "y:0"), 1, 60, 0, -4, 1);
        bestIs(Edges.meadow("pl5b9;pr5;e", "y:0"), 1, 60, 0, 0, 11);
        bestIs(Edges.meadow("pl4b9;pr5;e", "y:0"), 1, 60, 0, -1, 9);
        bestIs(Edges.meadow("pl5b9;pr4;e", "y:0"), 1, 60, 0, -1, 9);
        bestIs(Edges.meadow("p;p;e", "y:99"), 1, 60, 0, -5, 0);
        bestIs(Edges.meadow("pb0;pb0;e", "y:99"), 10, 1, 0, -5, 0);
        bestIs(Edges.meadow("pb9;p;e", "y:b=9?0;y:99"), 1, 1, 9, 0, 3);
        bestIs(Edges.meadow("pb8;pb9;e", "y:b=9?0;y:99"), 1, 1, 0, -5, 0);
        bestIs(Edges.meadow("pl0;pr5;e", "y:r=5?0;y:99"), 1, 1, 0, 5, 1);
        bestIs(Edges.meadow("pl0;pr5;e", "y:r=0-5?0;y:99"), 1, 1, 0, -5, 1);
        bestIs(Edges.meadow("pl0;pr4;e", "y:r=5?0;y:99"), 1, 1, 0, -5, 0);
        bestIs(Edges.meadow("p;p;e", "y:b=0&r=0?99;y:0"), 1, 1, 1, 0, 3);
        bestIs(Edges.meadow("p;p;e", "y:b<5&r>0?99;y:b<3&r<0?99;y:b=5?99;y:0"), 1, 1, 3, -1, 2);
        bestIs(Edges.meadow("mw9;pb9;p;e", "y:b=1?0;y:99"), 1, 1, 1, -2, 3);
        bestIs(Edges.meadow("mw9;pb9;p;e", "y:b=3?0;y:99"), 1, 1, 3, -5, 2);
        bestIs(Edges.meadow("mw9;pb9;p;e", "y:b=9?0;y:99"), 1, 1, 0, -5, 0);
    }

    private static void bestRefused() {
        Edges.sentence(13, "HIDDEN: no such ones");
        Edges.refused(Edges.RICH, HIDDEN, Edges.NO_TWO, (x, v) -> x.best(v, 0, 4, 0));
        Edges.taken(Edges.RICH, HIDDEN, Edges.LAST_TWO, (x, v) -> x.best(v, 0, 4, 0));
        Edges.refused(Edges.RICH, HIDDEN, Edges.NO_EGG_END, (x, v) -> x.best(1, v, 4, 0));
        Edges.taken(Edges.RICH, HIDDEN, Edges.LAST_EGG_END, (x, v) -> x.best(1, v, 4, 0));
        Edges.refused(Edges.BARE, HIDDEN, Edges.LAST_TWO, (x, v) -> x.best(v, 0, 4, 0));
        Edges.sentence(13, "alike");
        Edges.refused(Edges.RICH, HIDDEN, Edges.ALIKE, (x, v) -> x.best(v, 0, 4, 0));
        Edges.sentence(13, "out of bounds");
        Edges.refused(Edges.RICH, HIDDEN, Edges.NO_YARDS, (x, v) -> x.best(1, 0, v, 0));
        Edges.taken(Edges.RICH, HIDDEN, Edges.LAST_YARDS, (x, v) -> x.best(1, 0, v, 0));
        Edges.refused(Edges.RICH, HIDDEN, new int[] {-1, 3, 4, Edges.LOWEST, Edges.HIGHEST}, (x, v) -> x.best(1, 0, 4, v));
        Edges.taken(Edges.RICH, HIDDEN, new int[] {0, 1, 2}, (x, v) -> x.best(1, 0, 4, v));
    }
}
