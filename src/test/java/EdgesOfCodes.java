/**
 * Codes at their boundaries: in a meadow with as many persons and eggs as fit, each of another
 * kind, every call answers of any two and any egg what it answers where these are alone.
 */
final class EdgesOfCodes {
    private static final int NONE = Edges.NONE;
    private static final int WHOLE = Edges.WHOLE;
    private static final String TOLD = "mw2s3f2;";
    private static final String[] PERSONS = {"pl0a2r1b3", "pl1a5r2b6", "pl2a0r3b1", "pl3a7r4b9", "pl1a9r0b4", "pl4a4r5b7"};
    private static final String[] EGGS = {"eb12", "eb25", "eb40c1", "eb33", "eb55", "eb99c1"};

    /** A call with a code of two persons and one of an egg and an end (or with one of the two). */
    private interface Coded {
        long on(EggThrow x, int two, int egg);
    }

    private EdgesOfCodes() {
    }

    static void hold() {
        allBestsOfOne();
        bestsBehindAll();
        throwsOfTwo();
        coursesOfTwo();
        choicesOfTwo();
        firstsOfTwo();
        eggsOfTwo();
        pairsOfPairs();
        ranksOfAll();
        crownsOfAll();
        chainsOfAll();
        gamesThrowByThrow();
        fetesThrowByThrow();
    }

    private static EggThrow full() {
        return Edges.meadow(TOLD + String.join(";", PERSONS) + ";" + String.join(";", EGGS));
    }

    private static EggThrow alone(int one, int other, int egg) {
        return Edges.meadow(TOLD + PERSONS[one] + ";" + PERSONS[other] + ";" + EGGS[egg]);
    }

    /** Each of the thirty codes of two with each of the twelve of an egg and an end. */
    private static void sameAlone(Coded... calls) {
        for (int one = 0; one < 6; one++) {
            for (int other = 0; other < 6; other++) {
                EggThrow all = full();
                for (int egg = 0; egg < 6 && one != other; egg++) {
                    EggThrow few = alone(one, other, egg);
                    for (int i = 0; i < 2 * calls.length; i++) {
                        int code = 10 * egg + i % 2;
                        Edges.due("call " + i / 2 + " of " + one + other + " with " + code,
                                calls[i / 2].on(all, 10 * one + other, code), calls[i / 2].on(few, 1, i % 2));
                    }
                }
            }
        }
    }

    // ---- all in one object: nothing that is kept of one may be taken for another

    private static void allBestsOfOne() {
        Edges.sentence(13, "BEST of two (who throws, who catches), an END, an EGG, YARDS");
        for (int yards = 4; yards <= 12; yards += 4) {
            EggThrow all = full();
            for (int two = 1; two < 60; two++) {
                for (int egg = 0; egg < 6 && two % 10 < 6 && two / 10 != two % 10; egg++) {
                    EggThrow few = alone(two / 10, two % 10, egg);
                    for (int end = 0; end < 2; end++) {
                        Edges.due("the aim of " + two + " with " + egg + end, all.best(two, 10 * egg + end, yards, 1),
                                few.best(1, end, yards, 1));
                    }
                }
            }
        }
    }

    /** What is asked of all persons and eggs leaves what is asked of any two as it is. */
    private static void bestsBehindAll() {
        Edges.sentence(18, "WHOM: all PERSONS");
        bestsBehind(x -> x.whom(0));
        Edges.sentence(30, "RANK: all PAIRS");
        for (int egg = 0; egg < 6; egg++) {
            int with = egg;
            bestsBehind(x -> x.rank(with, 0));
        }
        Edges.sentence(46, "ROW: of all rows");
        bestsBehind(x -> x.row(5, 4, 0));
        Edges.sentence(36, "FETE: PERSONS in PAIRS");
        bestsBehind(x -> x.fete(543210, 1, 0));
        Edges.sentence(37, "CROWN of a PAIR");
        bestsBehind(x -> x.crown(543210, 0));
        Edges.sentence(38, "CARTON: a PAIR throws n THROWS");
        bestsBehind(x -> x.carton(54, 1, 6, 0));
        Edges.sentence(19, "WHICH EGG");
        bestsBehind(x -> x.which(54, 1, 0));
    }

    private static void bestsBehind(Edges.Call call) {
        EggThrow asked = full();
        EggThrow fresh = full();
        call.on(asked);
        for (int two = 1; two < 60; two++) {
            for (int egg = 0; egg < 12 && two % 10 < 6 && two / 10 != two % 10; egg++) {
                int code = egg / 2 * 10 + egg % 2;
                Edges.due("hope of " + two + " with " + code, asked.hope(two, code), fresh.hope(two, code));
            }
        }
    }

    private static void throwsOfTwo() {
        Edges.sentence(12, "codes: 10 times who throws and who catches; 10 times the EGG and the END");
        sameAlone((x, two, egg) -> x.good(two, egg, 5, 105), (x, two, egg) -> x.good(two, egg, 9, 5));
        Edges.sentence(13, "codes likewise");
        sameAlone((x, two, egg) -> x.best(two, egg, 8, 0), (x, two, egg) -> x.best(two, egg, 8, 1),
                (x, two, egg) -> x.best(two, egg, 8, 2));
        Edges.sentence(22, "codes as for GOOD");
        sameAlone((x, two, egg) -> x.arms(two, egg, 7, 5, 1), (x, two, egg) -> x.arms(two, egg, 7, 104, 1));
        Edges.sentence(26, "codes as for GOOD");
        sameAlone((x, two, egg) -> x.safe(two, egg));
        Edges.sentence(27, "codes likewise");
        sameAlone((x, two, egg) -> x.spots(two, egg, 6, 1), (x, two, egg) -> x.spots(two, egg, 6, 3));
        Edges.sentence(28, "as ARMS");
        sameAlone((x, two, egg) -> x.legs(two, egg, 7, 5, 1), (x, two, egg) -> x.legs(two, egg, 7, 104, 3));
        Edges.sentence(40, "codes as for BEST");
        sameAlone((x, two, egg) -> x.least(two, egg, 6, 0), (x, two, egg) -> x.least(two, egg, 6, 1));
        Edges.sentence(41, "codes as for BEST");
        sameAlone((x, two, egg) -> x.loft(two, egg, 6, 1, 0), (x, two, egg) -> x.loft(two, egg, 6, 1, 1));
    }

    private static void coursesOfTwo() {
        Edges.sentence(14, "codes likewise: who throws first and the other; the EGG and the END of who throws first");
        sameAlone((x, two, egg) -> x.comes(two, egg, 2), (x, two, egg) -> x.comes(two, egg, 3));
        Edges.sentence(15, "FAR.");
        sameAlone((x, two, egg) -> x.far(two, egg));
        Edges.sentence(16, "HOPE.");
        sameAlone((x, two, egg) -> x.hope(two, egg));
        Edges.sentence(47, "A GAME (codes likewise)");
        sameAlone((x, two, egg) -> x.game(two, egg, 77) + 100 * x.undo());
    }

    private static void choicesOfTwo() {
        Edges.sentence(29, "the STEP (0), how much (1)");
        sameAlone((x, two, egg) -> x.stride(two, egg, 0), (x, two, egg) -> x.stride(two, egg, 1));
        Edges.sentence(31, "the WIND (0), HOPE (1)");
        sameAlone((x, two, egg) -> x.calm(two, egg, 0), (x, two, egg) -> x.calm(two, egg, 1));
        Edges.sentence(32, "LEARN (k 0 .. 60, parts 0 .. 1,000,000,000)");
        sameAlone((x, two, egg) -> x.learn(two, egg, 2, 100000000), (x, two, egg) -> x.learn(two, egg, 3, 200000000),
                (x, two, egg) -> x.learn(two, egg, 1, WHOLE));
        Edges.sentence(42, "GUSTY.");
        sameAlone((x, two, egg) -> x.gusty(two, egg, 4));
    }

    // ---- one of the two codes alone

    private static void firstsOfTwo() {
        Edges.sentence(17, "10 times both PERSONS; the EGG");
        for (int two = 1; two < 60; two++) {
            EggThrow x = full();
            for (int egg = 0; egg < 6 && two % 10 < 6 && two / 10 != two % 10; egg++) {
                int lower = Math.min(two / 10, two % 10);
                int upper = Math.max(two / 10, two % 10);
                long most = NONE;
                int which = NONE;
                for (int i = 0; i < 4; i++) {
                    long hope = x.hope(i < 2 ? 10 * lower + upper : 10 * upper + lower, 10 * egg + i % 2);
                    which = hope > most ? 10 * (i < 2 ? lower : upper) + i % 2 : which;
                    most = Math.max(most, hope);
                }
                Edges.due("first of " + two + " with " + egg, x.first(two, egg, 0), which);
                Edges.due("hope of " + two + " with " + egg, x.first(two, egg, 1), most);
            }
        }
    }

    /** All six eggs, but the two alone. */
    private static void sameEggs(Coded... calls) {
        for (int two = 1; two < 60; two++) {
            if (two % 10 > 5 || two / 10 == two % 10) {
                continue;
            }
            EggThrow all = full();
            EggThrow few = Edges.meadow(TOLD + PERSONS[two / 10] + ";" + PERSONS[two % 10] + ";" + String.join(";", EGGS));
            for (int i = 0; i < 2 * calls.length; i++) {
                Edges.due("call " + i / 2 + " of " + two + " from " + i % 2, calls[i / 2].on(all, two, i % 2),
                        calls[i / 2].on(few, 1, i % 2));
            }
        }
    }

    private static void eggsOfTwo() {
        Edges.sentence(19, "END of who throws first");
        sameEggs((x, two, end) -> x.which(two, end, 0), (x, two, end) -> x.which(two, end, 1));
        Edges.sentence(25, "END of who throws first");
        sameEggs((x, two, end) -> x.lot(two, end));
        Edges.sentence(38, "END of who throws first");
        sameEggs((x, two, end) -> x.carton(two, end, 3, 0), (x, two, end) -> x.carton(two, end, 3, 1),
                (x, two, end) -> x.carton(two, end, 6, 1), (x, two, end) -> x.carton(two, end, 1, 0));
        Edges.sentence(39, "from an END by its BEST is GOOD for all slips");
        sameEggs((x, two, end) -> x.spare(two, end, 3), (x, two, end) -> x.spare(two, end, 9));
    }

    private static void pairsOfPairs() {
        int[][] four = {{0, 1, 5, 4}, {4, 5, 1, 0}, {5, 4, 4, 5}, {2, 3, 5, 0}, {4, 5, 5, 4}, {3, 1, 4, 2}};
        for (int[] p : four) {
            for (int eggs = 0; eggs < 60; eggs++) {
                if (eggs % 10 > 5) {
                    continue;
                }
                EggThrow all = full();
                EggThrow few = Edges.meadow(TOLD + PERSONS[p[0]] + ";" + PERSONS[p[1]] + ";" + PERSONS[p[2]] + ";"
                        + PERSONS[p[3]] + ";" + EGGS[eggs / 10] + ";" + EGGS[eggs % 10]);
                int one = 10 * p[0] + p[1];
                int other = 10 * p[2] + p[3];
                Edges.sentence(23, "codes of PERSONS; EGGS as 10 times the one's and the other's");
                for (int k = 1; k <= 3; k++) {
                    Edges.due("bold, k " + k, all.bold(one, other, eggs, k, NONE), few.bold(1, 23, 1, k, NONE));
                    Edges.due("bold, k " + k, all.bold(one, other, eggs, k, 0), few.bold(1, 23, 1, k, 0));
                }
                Edges.sentence(24, "codes as for BOLD");
                Edges.due("farther", all.duel(one, other, eggs, 0), few.duel(1, 23, 1, 0));
                Edges.due("as far", all.duel(one, other, eggs, 1), few.duel(1, 23, 1, 1));
            }
        }
    }

    // ---- all persons

    private static void ranksOfAll() {
        Edges.sentence(30, "all PAIRS (the lower one first, from END 0) with an EGG by HOPE");
        for (int egg = 0; egg < 6; egg++) {
            EggThrow x = full();
            long ahead = Long.MAX_VALUE;
            int last = NONE;
            for (int i = 0; i < 15; i++) {
                int two = x.rank(egg, i);
                long hope = x.hope(two, 10 * egg);
                Edges.due("the lower one first", two / 10 < two % 10, true);
                Edges.due("not more than the one ahead", hope < ahead || hope == ahead && two > last, true);
                ahead = hope;
                last = two;
            }
        }
        Edges.sentence(18, "so that HOPES together are greatest");
        EggThrow x = full();
        int digits = (int) x.whom(0);
        long sum = 0;
        for (int i = 0, by = 100000; i < 6; i++, by /= 10) {
            int other = digits / by % 10;
            sum += other > i ? x.hope(10 * i + other, 0) : 0;
        }
        Edges.due("together", x.whom(1), sum);
    }

    private static void crownsOfAll() {
        Edges.sentence(37, "for each k parts of just k times parts of fewer than k of each other one");
        int[] told = {103254, 543210, 345012, 230154};
        for (int pairs : told) {
            int[] codes = new int[3];
            int count = 0;
            for (int i = 0, by = 100000; i < 6; i++, by /= 10) {
                if (pairs / by % 10 > i) {
                    codes[count] = 10 * i + pairs / by % 10;
                    count++;
                }
            }
            EggThrow x = full();
            EggThrow y = full();
            long[] due = new long[3];
            for (int k = 0; k <= 20; k++) {
                for (int own = 0; own < 3; own++) {
                    long parts = y.comes(codes[own], 10 * own, k) - y.comes(codes[own], 10 * own, k + 1);
                    for (int other = 0; other < 3; other++) {
                        parts = other == own ? parts : parts * (WHOLE - y.comes(codes[other], 10 * other, k)) / WHOLE;
                    }
                    due[own] += parts;
                }
            }
            for (int own = 0; own < 3; own++) {
                Edges.due("crown of " + codes[own], x.crown(pairs, codes[own] / 10), due[own]);
            }
        }
    }

    private static void chainsOfAll() {
        Edges.sentence(45, "over so many YARDS each time, from END 0 each, by BESTS");
        int[] rows = {12345, 543210, 102345, 254301, 451023};
        for (int row : rows) {
            for (int egg = 0; egg < 6; egg++) {
                EggThrow x = full();
                long parts = WHOLE;
                for (int by = 100000; by > 1; by /= 10) {
                    int two = row / (by / 10) % 100;
                    parts = parts * x.best(two, 10 * egg, 3, 2) / (2 * x.person(two / 10, 0) + 1);
                }
                Edges.due("row " + row + " with " + egg, x.chain(row, egg, 3), parts);
            }
        }
        Edges.sentence(46, "of all rows that with the most such parts");
        for (int egg = 0; egg < 6; egg++) {
            EggThrow x = full();
            int best = x.row(egg, 3, 0);
            Edges.due("its parts", x.chain(best, egg, 3), x.row(egg, 3, 1));
            for (int row : rows) {
                Edges.due("no row is better", x.chain(row, egg, 3) <= x.row(egg, 3, 1), true);
            }
        }
    }

    // ---- throw by throw, by off and force

    private static boolean isCaught(EggThrow x, int two, int eggEnd, int yards, Draws draws) {
        int by = two / 10;
        int to = two % 10;
        int slip = x.person(by, 0);
        int bow = x.best(two, eggEnd, yards, 0);
        int off = x.off(by, eggEnd % 10, bow, x.best(two, eggEnd, yards, 1), draws.below(2 * slip + 1) - slip);
        int bears = x.egg(eggEnd / 10, 1) == 1 ? x.egg(eggEnd / 10, 0) / 2 : x.egg(eggEnd / 10, 0);
        return Math.abs(off) <= x.person(to, 2) && x.force(to, eggEnd % 10, yards, bow, off) <= bears;
    }

    private static boolean isCaught(EggThrow x, int two, int eggEnd, int k, int yards, Draws draws) {
        int turned = two % 10 * 10 + two / 10;
        int otherEnd = eggEnd / 10 * 10 + 1 - eggEnd % 10;
        return isCaught(x, k % 2 == 1 ? two : turned, k % 2 == 1 ? eggEnd : otherEnd, yards, draws);
    }

    /** In wind, so that a bow carries the egg off. */
    private static EggThrow windy() {
        return Edges.meadow("mw9f12;pl1r2b9;pl2a9r2b9;pl1a9r5b9;pl0a9r3b9;pl3a9r4b9;pl1a9r1b9;eb40;eb50;eb60",
                "y:[9-b]*9");
    }

    private static void gamesThrowByThrow() {
        Edges.sentence(47, "THROWS as in 3 with slips by draws, till one is not caught");
        gamesThrowByThrow(EdgesOfCodes::windy, 12, 2);
        gamesThrowByThrow(EdgesOfCodes::full, 2, 3);
        gamesThrowByThrow(Edges.of("p;p;p;p;p;p;e;eb20;eb27"), 4, 2);
    }

    private static void gamesThrowByThrow(Edges.Base base, int from, int step) {
        int[] twos = {1, 10, 20, 34, 43, 52, 45};
        int some = 0;
        for (int two : twos) {
            for (int i = 0; i < 6; i++) {
                int eggEnd = i % 3 * 10 + i / 3;
                long seed = Draws.SEEDS[(two + i) % Draws.SEEDS.length];
                EggThrow x = base.made();
                Draws draws = new Draws(seed);
                int caught = 0;
                while (from + step * caught <= 60
                        && isCaught(x, two, eggEnd, caught + 1, from + step * caught, draws)) {
                    caught++;
                }
                some += caught;
                Edges.due("game of " + two + " with " + eggEnd, base.made().game(two, eggEnd, seed), caught);
            }
        }
        Edges.due("some are caught", some > 20, true);
    }

    private static void fetesThrowByThrow() {
        Edges.sentence(36, "who does not catch is out");
        int[] codes = {5, 14, 23};
        for (long seed : Draws.SEEDS) {
            Draws draws = new Draws(seed);
            int left = 7;
            int last = 7;
            int k = 0;
            while (Integer.bitCount(left) > 1 && k < 25) {
                EggThrow x = windy();
                k++;
                last = left;
                for (int pair = 0; pair < 3; pair++) {
                    if ((last >> pair & 1) == 1 && !isCaught(x, codes[pair], 10 * pair, k, 10 + 2 * k, draws)) {
                        left &= ~(1 << pair);
                    }
                }
            }
            EggThrow y = windy();
            Edges.due("winners by " + seed, y.fete(543210, seed, 0), left == 0 ? last : left);
            Edges.due("rounds by " + seed, y.fete(543210, seed, 1), k);
        }
    }
}
