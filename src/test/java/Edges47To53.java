/** The boundaries of promises 47 to 53: games by draws, images, and counts. */
final class Edges47To53 {
    private static final int NONE = Edges.NONE;
    private static final int HIDDEN = Edges.HIDDEN;

    private Edges47To53() {
    }

    static void hold() {
        gamesTillSixty();
        gamesByDraws();
        gamesForty();
        gamesRefused();
        playedGames();
        champions();
        undone();
        images();
        imagesKeep();
        backRefused();
        backFull();
        counts();
        countsWithout();
        countsRefused();
    }

    // ---- 47

    private static void gamesTillSixty() {
        Edges.sentence(47, "till one is not caught, or 60 YARDS would be passed: how many are caught");
        for (int step = 1; step <= 9; step++) {
            EggThrow x = Edges.meadow("ms" + step + ";p;p;e", "y:0");
            int[] froms = {1, 2, 6, 7, 50, 51, 52, 58, 59, 60};
            for (int from : froms) {
                x.set(3, from);
                Edges.due("from " + from + " by " + step, x.game(1, 0, from), (60 - from) / step + 1);
            }
        }
        Edges.due("none", Edges.meadow("p;p;e", "y:99").game(1, 0, 1), 0);
        Edges.due("till one is not", Edges.meadow("p;p;e", "y:d=10?99;y:0").game(1, 0, 1), 3);
        EggThrow ends = Edges.meadow("mw1;p;p;e;eb99", "y:w=1?0;y:99");
        Edges.due("from END 0", ends.game(1, 0, 1), 1);
        Edges.due("from END 1", ends.game(1, 1, 1), 0);
        Edges.due("with EGG 1", ends.game(1, 11, 1), 29);
    }

    /** See Edges33To38.feted: caught by the last of the slips alone. */
    private static int caught(int one, int other, long seed) {
        Draws draws = new Draws(seed);
        int caught = 0;
        while (caught < 60) {
            int slip = caught % 2 == 0 ? one : other;
            if (draws.below(2 * slip + 1) != 2 * slip) {
                return caught;
            }
            caught++;
        }
        return caught;
    }

    private static void gamesByDraws() {
        Edges.sentence(47, "A draw of a slip: of 2 SLIP and 1, less SLIP.");
        for (int slip = 0; slip <= 5; slip++) {
            EggThrow x = Edges.meadow("ms1f1;pl0;pr5l" + slip + ";e", Edges14To21.THIRDS);
            for (int i = 0; i < 200; i++) {
                long seed = i * 104729L - 7;
                Edges.due("slip " + slip + " by " + seed, x.game(1, 0, seed), caught(0, slip, seed));
                x.undo();
            }
        }
        Edges.sentence(47, "x, at first the seed, becomes x times 6364136223846793005 and 1442695040888963407 (64 bits, going round)");
        EggThrow y = Edges.meadow("ms1f1;pl0;p;e", Edges14To21.THIRDS);
        for (long seed : Draws.SEEDS) {
            Edges.due("by " + seed, y.game(1, 0, seed), caught(0, 1, seed));
            Edges.due("the other first, by " + seed, y.game(10, 0, seed), caught(1, 0, seed));
        }
        Edges.sentence(47, "a draw of m: (x shifted right by 33, without sign) modulo m");
        EggThrow z = Edges.meadow("ms1f1;pl5;pl5;pl0r5;e", Edges14To21.THIRDS);
        int far = 0;
        for (int i = 0; i < 240; i++) {
            long seed = Long.MIN_VALUE + i * 0x123456789abcdfL;
            int due = caught(5, 0, seed);
            far += due > 0 ? 1 : 0;
            Edges.due("one of eleven by " + seed, z.game(2, 0, seed), due);
            z.undo();
        }
        Edges.due("some are caught", far > 5 && far < 60, true);
    }

    private static void gamesForty() {
        Edges.sentence(47, "It is put by (40 at most, no more then).");
        EggThrow x = Edges.EASY.made();
        for (int i = 1; i <= 40; i++) {
            Edges.due("one more", x.game(1 + i % 3, 10 * (i % 3), i), 29);
            Edges.due("counted", x.count(10), i);
        }
        Edges.sentence(47, "there are 40");
        Edges.due("no more", x.game(1, 0, 1), NONE);
        Edges.due("counted", x.count(10), 40);
        Edges.due("the last is as it was", x.played(39, 0), 2);
        Edges.due("none behind it", x.played(40, 0), NONE);
        Edges.refused(Edges.FULL, NONE, Edges.LAST_TWO, (y, v) -> y.game(v, 0, 1));
        Edges.due("undone", x.undo(), 39);
        Edges.due("one more", x.game(32, 21, 1), 29);
        Edges.due("it is the last", x.played(39, 0), 32);
        Edges.due("no more", x.game(1, 0, 1), NONE);
        Edges.tell(x, 0, "p;p;e");
        Edges.due("the count begins anew", x.game(1, 0, 1) >= 0 ? x.count(10) : NONE, 1);
    }

    private static void gamesRefused() {
        Edges.sentence(47, "NONE: no such ones");
        Edges.refused(Edges.RICH, NONE, Edges.NO_TWO, (x, v) -> x.game(v, 0, 1));
        Edges.refused(Edges.BARE, NONE, Edges.LAST_TWO, (x, v) -> x.game(v, 0, 1));
        Edges.done(Edges.RICH, NONE, Edges.LAST_TWO, (x, v) -> x.game(v, 0, 1));
        Edges.refused(Edges.RICH, NONE, Edges.NO_EGG_END, (x, v) -> x.game(1, v, 1));
        Edges.done(Edges.RICH, NONE, Edges.LAST_EGG_END, (x, v) -> x.game(1, v, 1));
        Edges.sentence(47, "alike");
        Edges.refused(Edges.RICH, NONE, Edges.ALIKE, (x, v) -> x.game(v, 0, 1));
    }

    // ---- 48, 49, 50

    private static void playedGames() {
        Edges.sentence(48, "0 the two, 1 the EGG and END, 2 how many were caught");
        EggThrow x = Edges.EASY.made();
        x.game(1, 0, 1);
        x.set(3, 60);
        x.game(32, 21, 2);
        int[] due = {1, 0, 29, 32, 21, 1};
        for (int i = 0; i < 6; i++) {
            Edges.due("game " + i / 3, x.played(i / 3, i % 3), due[i]);
        }
        Edges.sentence(48, "NONE: no such ones.");
        Edges.refused(Edges.RICH, NONE, new int[] {-1, 3, 4, 40, Edges.LOWEST, Edges.HIGHEST}, (y, v) -> y.played(v, 0));
        Edges.taken(Edges.RICH, NONE, new int[] {0, 2}, (y, v) -> y.played(v, 0));
        Edges.refused(Edges.RICH, NONE, new int[] {-1, 3, 4, Edges.LOWEST, Edges.HIGHEST}, (y, v) -> y.played(0, v));
        Edges.taken(Edges.RICH, NONE, new int[] {0, 1, 2}, (y, v) -> y.played(0, v));
        Edges.refused(Edges.FULL, NONE, new int[] {-1, 40, 41}, (y, v) -> y.played(v, 2));
        Edges.taken(Edges.FULL, NONE, new int[] {0, 39}, (y, v) -> y.played(v, 2));
        Edges.refused(Edges.BARE, NONE, new int[] {-1, 0, 1}, (y, v) -> y.played(v, 0));
        Edges.refused(Edges.of("p;p;e"), NONE, new int[] {-1, 0, 1}, (y, v) -> y.played(v, 0));
        x.undo();
        Edges.due("one that is undone", x.played(1, 0), NONE);
    }

    private static void champions() {
        Edges.sentence(49, "the GAME with the most caught (of several the first)");
        EggThrow x = Edges.EASY.made();
        int[] froms = {60, 50, 50, 4, 4, 60};
        int[] champion = {0, 1, 1, 3, 3, 3};
        for (int i = 0; i < froms.length; i++) {
            x.set(3, froms[i]);
            x.game(1, 0, 1);
            Edges.due("behind game " + i, x.champion(), champion[i]);
        }
        for (int i = froms.length - 1; i > 0; i--) {
            x.undo();
            Edges.due("without game " + i, x.champion(), champion[i - 1]);
        }
        EggThrow none = Edges.meadow("p;p;e", "y:99");
        none.game(1, 0, 1);
        none.game(10, 0, 1);
        Edges.due("none caught at all", none.champion(), 0);
        EggThrow last = Edges.EASY.made();
        last.law(NONE);
        for (int i = 0; i < 39; i++) {
            last.game(1, 0, i);
        }
        last.law(0);
        last.game(1, 0, 1);
        Edges.due("the last of forty", last.champion(), 39);
        Edges.sentence(49, "NONE: none.");
        Edges.refused(Edges.of("p;p;e"), NONE, y -> y.champion());
        Edges.refused(Edges.BARE, NONE, y -> y.champion());
        x.undo();
        Edges.due("all undone", x.champion(), NONE);
    }

    private static void undone() {
        Edges.sentence(50, "The latest can be UNDONE.");
        EggThrow two = Edges.EASY.made();
        two.game(1, 0, 1);
        two.game(32, 21, 1);
        Edges.due("the latest", two.undo(), 1);
        Edges.due("the one ahead of it stays", two.played(0, 0), 1);
        Edges.sentence(50, "The latest GAME is UNDONE: how many there are.");
        EggThrow x = Edges.FULL.made();
        for (int i = 39; i >= 0; i--) {
            Edges.due("one fewer", x.undo(), i);
            Edges.due("it is gone", x.played(i, 0), NONE);
            Edges.due("the one ahead is there", x.played(i - 1, 0), i == 0 ? NONE : 1 + (i - 1) % 5);
        }
        Edges.sentence(50, "NONE: none.");
        Edges.due("no more", x.undo(), NONE);
        Edges.due("none still", x.count(10), 0);
        Edges.refused(Edges.of("p;p;e"), NONE, y -> y.undo());
        Edges.refused(Edges.BARE, NONE, y -> y.undo());
        Edges.due("the first anew", x.game(1, 0, 1) >= 0 ? x.undo() : NONE, 0);
    }

    // ---- 51, 52

    private static void images() {
        Edges.sentence(51, "An IMAGE (instead of the one ahead): how many GAMES.");
        EggThrow x = Edges.EASY.made();
        for (int i = 0; i <= 40; i++) {
            Edges.due("of so many", x.image(), i);
            Edges.due("back at once", x.back(), i);
            x.game(1 + i % 3, 0, 1);
        }
        Edges.due("the latest alone is kept", x.back(), 40);
        Edges.due("forty", x.count(10), 40);
        x.undo();
        x.image();
        x.game(1, 0, 1);
        Edges.due("the later one", x.back(), 39);
        Edges.sentence(51, "NONE: no MEADOW.");
        Edges.refused(Edges.BARE, NONE, y -> y.image());
        Edges.refused(EggThrow::new, NONE, y -> y.image());
    }

    private static void imagesKeep() {
        Edges.sentence(52, "An IMAGE keeps these, GAMES; BACK: they are so again.");
        EggThrow x = Edges.meadow("mw3d1s5f6;p;p;e;e", "y:5");
        int caughtFirst = x.game(1, 0, 1);
        x.set(3, 50);
        int caughtSecond = x.game(10, 11, 2);
        x.set(3, 6);
        Edges.due("not alike", caughtFirst == caughtSecond, false);
        x.image();
        int[] set = {9, 0, 1, 60};
        for (int what = 0; what < 4; what++) {
            x.set(what, set[what]);
        }
        x.undo();
        x.undo();
        x.game(1, 10, 3);
        x.law(NONE);
        x.witness(0, 1, true);
        x.measure(0, 100, 0, 5);
        Edges.tell(x, 1, "y:6");
        Edges.tell(x, 2, "12");
        Edges.feed(x, "abc");
        Edges.due("as many games", x.back(), 2);
        // a law that holds, what was witnessed and measured, texts and the tape are not of the image
        int[] due = {2, 2, 2, 3, 3, 1, 5, 6, NONE, 1, 2, 1, 1};
        for (int what = 0; what < due.length; what++) {
            Edges.due("count(" + what + ")", x.count(what), due[what]);
        }
        Edges.due("the first game", x.played(0, 1), 0);
        Edges.due("the second game", x.played(1, 1), 11);
        Edges.due("the second game", x.played(1, 0), 10);
        Edges.due("what was caught", x.played(0, 2), caughtFirst);
        Edges.due("what was caught", x.played(1, 2), caughtSecond);
        Edges.due("no third", x.played(2, 0), NONE);
        x.set(0, 9);
        Edges.due("back once more", x.back(), 2);
        Edges.due("the wind again", x.count(4), 3);
        EggThrow y = Edges.meadow("mw1;p;p;e");
        y.image();
        Edges.due("by the wind", y.best(1, 0, 18, 2), 2);
        y.set(0, 0);
        Edges.due("calm", y.best(1, 0, 18, 2), 1);
        y.back();
        Edges.due("a best by the wind that is back", y.best(1, 0, 18, 2), 2);
        y.set(1, 1);
        Edges.due("by its end", y.best(1, 0, 18, 2), 0);
        y.back();
        Edges.due("a best by the end that is back", y.best(1, 0, 18, 2), 2);
    }

    private static void backRefused() {
        Edges.sentence(52, "NONE: no IMAGE of this MEADOW.");
        Edges.refused(Edges.BARE, NONE, x -> x.back());
        Edges.refused(EggThrow::new, NONE, x -> x.back());
        Edges.refused(Edges.ODD, NONE, x -> x.back());
        Edges.refused(() -> {
            EggThrow x = Edges.RICH.made();
            Edges.tell(x, 0, "mw5;p;p;e");
            x.game(1, 0, 1);
            return x;
        }, NONE, x -> x.back());
        EggThrow x = Edges.RICH.made();
        Edges.tell(x, 0, "p;p");
        Edges.due("a refused meadow leaves the image", x.back(), 2);
        Edges.tell(x, 0, "p;p;e");
        Edges.due("another one does not", x.back(), NONE);
        x.image();
        Edges.due("till it has its own", x.back(), 0);
    }

    private static void backFull() {
        Edges.sentence(52, "how many GAMES");
        EggThrow x = Edges.FULL.made();
        for (int i = 0; i < 40; i++) {
            x.undo();
        }
        Edges.due("forty again", x.back(), 40);
        Edges.due("no more", x.game(1, 0, 1), NONE);
        Edges.due("the last", x.played(39, 0), 1 + 39 % 5);
        EggThrow y = Edges.EASY.made();
        y.image();
        for (int i = 0; i < 40; i++) {
            y.game(1, 0, 1);
        }
        Edges.due("none again", y.back(), 0);
        Edges.due("none is played", y.played(0, 0), NONE);
        Edges.due("the first anew", y.game(10, 0, 1), 29);
        Edges.due("the first anew", y.played(0, 0), 10);
    }

    // ---- 53

    private static void counts() {
        Edges.sentence(53, "0 PERSONS, 1 EGGS, 2 LAWS, 3 bytes of the TAPE, 4 WIND, 5 its END, 6 STEP, 7 FROM, 8 the LAW that holds (NONE), 9 WITNESSED, 10 GAMES, 11 FILMS, 12 MEASURED");
        int[] rich = {4, 3, 2, 16, 2, 1, 4, 6, 1, 2, 3, 2, 1};
        int[] full = {6, 6, 4, 160, 1, 0, 9, 4, NONE, 20, 40, 4, 20};
        EggThrow x = Edges.RICH.made();
        EggThrow y = Edges.FULL.made();
        for (int what = 0; what <= 12; what++) {
            Edges.due("count(" + what + ")", x.count(what), rich[what]);
            Edges.due("count(" + what + ") when full", y.count(what), full[what]);
        }
        y.law(3);
        Edges.due("the last law", y.count(8), 3);
    }

    private static void countsWithout() {
        Edges.sentence(53, "(4 .. 7: 0 without a MEADOW)");
        EggThrow x = Edges.BARE.made();
        int[] due = {0, 0, 1, 16, 0, 0, 0, 0, NONE, 0, 0, 1, 0};
        for (int what = 0; what < due.length; what++) {
            Edges.due("count(" + what + ")", x.count(what), due[what]);
        }
        x.end(0);
        Edges.tell(x, 0, "mw9d1s9f60;p;p");
        for (int what = 4; what <= 7; what++) {
            Edges.due("count(" + what + ") behind a fault", x.count(what), 0);
        }
    }

    private static void countsRefused() {
        Edges.sentence(53, "HIDDEN for others.");
        int[] others = {-1, -2, 13, 14, 100, HIDDEN, Edges.LOWEST, Edges.HIGHEST};
        Edges.refused(Edges.RICH, HIDDEN, others, (x, v) -> x.count(v));
        Edges.refused(Edges.BARE, HIDDEN, others, (x, v) -> x.count(v));
        Edges.taken(Edges.RICH, HIDDEN, new int[] {0, 12}, (x, v) -> x.count(v));
    }
}
