import java.util.NoSuchElementException;

/**
 * Each promise with answers worked out by hand: ordinary ones, the edges, and what is refused.
 *
 * The usual meadow "p;p;e" serves often. A throw's force there is 2Y + 3|BOW - Y/4| - 6, and OFF or
 * 3|OFF|; the egg bears 30; who catches gets to OFF -1, 0, 1; three slips. So over Y yards: up to 12
 * all slips are good by BOW 0, over 13 by 1, over 14 and 15 by 2, over 16 by 4; over 17 two (BOW 4,
 * OFF 0 and 1), over 18 one (BOW 4, OFF 0), over 19 none. A pair throws over 4, 6, .. 16 (seven
 * throws, all caught), 18 (a third), 20 (never): HOPE is 7,333,333,333.
 */
public final class PromisesTest {
    private static final int NONE = -1;
    private static final int HIDDEN = -1000000;
    private static final int WHOLE = 1000000000;
    private static int wrong = 0;

    private static void due(String what, long got, long want) {
        if (got != want) {
            wrong++;
            System.out.println(what + " answered " + got + ", due is " + want);
        }
    }

    private static void due(String what, boolean got, boolean want) {
        due(what, got ? 1 : 0, want ? 1 : 0);
    }

    /** Puts a text on the tape, behind what is there. */
    private static void feed(EggThrow x, String text) {
        for (int i = 0; i < text.length(); i += 20) {
            int[] words = new int[5];
            for (int j = 0; j < 20 && i + j < text.length(); j++) {
                words[j / 4] |= text.charAt(i + j) << 24 - 8 * (j % 4);
            }
            x.feed(words[0], words[1], words[2], words[3], words[4]);
        }
    }

    private static int fault(int sort, String text) {
        EggThrow x = new EggThrow();
        feed(x, text);
        return x.fault(sort);
    }

    private static int tell(EggThrow x, int sort, String text) {
        x.end(0);
        feed(x, text);
        return x.text(sort);
    }

    private static EggThrow meadow(String text) {
        EggThrow x = new EggThrow();
        tell(x, 0, text);
        return x;
    }

    private static EggThrow meadow(String text, String law) {
        EggThrow x = meadow(text);
        tell(x, 1, law);
        x.law(0);
        return x;
    }

    private static boolean refuses(EggThrow x, int person, int what) {
        try {
            x.person(person, what);
            return false;
        } catch (NoSuchElementException e) {
            return true;
        }
    }

    // ---- 1 to 5: the tape

    private static void newObject() {
        EggThrow x = new EggThrow();
        for (int what = 0; what <= 12; what++) {
            due("1 count(" + what + ")", x.count(what), what == 8 ? NONE : 0);
        }
        due("1 held", x.held(), NONE);
        due("1 image", x.image(), NONE);
        due("1 back", x.back(), NONE);
        due("1 person", refuses(x, 0, 0), true);
    }

    private static void tapeGrows() {
        EggThrow x = new EggThrow();
        due("2 no bytes", x.feed(0, 0, 0, 0, 0), 0);
        due("2 zeros left out", x.feed(0x70003b00, 0, 0x70, 0, 0x3b000065), 5);
        due("2 highest first", x.text(0), 2);
        for (int i = 1; i <= 8; i++) {
            due("2 twenty more", x.feed(0x31313131, 0x31313131, 0x31313131, 0x31313131, 0x31313131), 20 * i);
        }
        due("2 more than 160", x.feed(1, 0, 0, 0, 0), NONE);
        due("2 none more", x.feed(0, 0, 0, 0, 0), 160);
        x.end(150);
        due("2 eleven of ten", x.feed(-1, -1, 0x01010100, 0, 0), NONE);
        due("2 refused changes nothing", x.count(3), 150);
        due("2 ten of ten", x.feed(-1, -1, 0x01010000, 0, 0), 160);
    }

    private static void tapeEnds() {
        EggThrow x = new EggThrow();
        feed(x, "p;p;e;x");
        due("3 beyond", x.end(8), false);
        due("3 below", x.end(-1), false);
        due("3 changes nothing", x.count(3), 7);
        due("3 all", x.end(7), true);
        due("3 five", x.end(5), true);
        due("3 count", x.count(3), 5);
        due("3 the first ones", x.fault(0), NONE);
        due("3 no more", x.end(6), false);
        due("3 none", x.end(0), true);
        due("3 empty", x.count(3), 0);
    }

    private static void meadowFaults() {
        String[] texts = {"", "p;p;e", " p ; p ; e ", "p;e", "p;p", "p;p;e;", "p;p;e;m;m", "p;p;p;p;p;p;p;e",
            "e;e;e;e;e;e;e;p;p", "p;p;e;q", "pl1l2;p;e", "pl6;p;e", "pl12;p;e", "pl123;p;e", "pl1 2;p;e", "pl;p;e",
            "pl 05;p;e", "eb0;p;p", "eb99;p;p", "eb100;p;p", "ec2;p;p", "ms0;p;p;e", "ms 10", "mf61;p;p;e", "mf60",
            "mf999", "mw9d1s9f60;pl5a9r5b9;pl0a0r0b0;eb1c0", "md2", "mw10", "pa10", "pr6", "pb10", "px", "m p", "p;;p",
            "pw1", "eb1b1", "p;p;e 1", "p;p;e" + (char) 200, "pl1,", "mb1", "  ", "p;p;e;pl"};
        int[] faults = {0, NONE, NONE, 3, 3, 6, 8, 12, 12, 6, 3, 2, 3, 4, 4, 2, NONE, 2, NONE, 4, 2, 2, 4, 3, 4,
            4, NONE, 2, 3, 3, 2, 3, 1, 2, 2, 1, 3, 6, 5, 3, 1, 2, 8};
        due("4 as many", texts.length, faults.length);
        for (int i = 0; i < texts.length; i++) {
            due("4 fault(0) of '" + texts[i] + "'", fault(0, texts[i]), faults[i]);
        }
    }

    private static void lawFaults() {
        String[] texts = {"", "y:1", " y : 1 ", "x", "y", "y:", "y:1;", "y:1;y:2", "y:1;z", "y:12345", "y:1234",
            "y:1 2", "y:d+b-a*w/r", "y:d+", "y:+d", "y:-1", "y:d>1?2", "y:d>1", "y:d>1?", "y:d?1", "y:d>1?2?3", "y:(d)",
            "y:(d>1)", "y:(d>1)?1", "y:!d>1?1", "y:!!(d>1)?1", "y:!1?1", "y:[d>1]", "y:[d]>1?1", "y:[d+1]*[2]",
            "y:d=1&b<2|a>3?1", "y:d=1=2?1", "y:d>1&?", "y:[[[[[[1]]]]]]", "y:[[[[[[[1]]]]]]]", "y:!!!!!!d=1?1",
            "y:!!!!!!!d=1?1", "y:!(!([[1]]=1))?2", "y:!(!([[[1]]]=1))?2", "y:!(!([[1]]=[[[1]]]))?2", "y:c", "y:1;y:!",
            "y:d>1;y:1", "y:(d>1", "y:(d>1]", "y:[1)", "y:d>(1)?1", "y:d>1?(1)", "y:d>1?!1", "y:d>1?2;y:3", "y::1",
            "y:((((((d=1))))))?1", "y:(((((((d=1", "y:!d=[[[[[1]]]]]?1", "y:!d=[[[[[[1"};
        int[] faults = {0, NONE, NONE, 0, 1, 2, 4, NONE, 4, 6, NONE,
            4, NONE, 4, 2, 2, NONE, 5, 6, 3, 7, 4,
            7, NONE, NONE, NONE, 4, 4, NONE, NONE,
            NONE, 5, 6, NONE, 8, NONE,
            8, NONE, 8, 14, 2, 7,
            5, 6, 6, 4, 4, 6, 6, NONE, 2,
            NONE, 8, NONE, 10};
        due("4 as many", texts.length, faults.length);
        for (int i = 0; i < texts.length && i < faults.length; i++) {
            due("4 fault(1) of '" + texts[i] + "'", fault(1, texts[i]), faults[i]);
        }
    }

    private static void filmFaults() {
        due("4 no frame", fault(2, ""), 0);
        due("4 blanks alone", fault(2, "   "), 3);
        due("4 one frame", fault(2, "7"), NONE);
        due("4 blanks between", fault(2, " 1  2 "), NONE);
        due("4 another byte", fault(2, "12a"), 2);
        due("4 24 frames", fault(2, "012345678901234567890123"), NONE);
        due("4 a 25th", fault(2, "0123456789012345678901234"), 24);
        due("4 a 25th behind blanks", fault(2, "012345678901234567890123  4x"), 26);
        due("4 another byte behind 24", fault(2, "012345678901234567890123x"), 24);
        due("4 no sort", fault(3, "1"), -2);
        due("4 no sort", fault(-1, "1"), -2);
    }

    private static void textsAreTaken() {
        EggThrow x = new EggThrow();
        due("5 a fault", tell(x, 0, "p;p"), NONE);
        due("5 the tape stays", x.count(3), 3);
        due("5 no sort", x.text(3), NONE);
        due("5 no sort", x.text(-1), NONE);
        for (int i = 0; i < 4; i++) {
            due("5 a law without a meadow", tell(x, 1, "y:" + i), i);
            due("5 the tape is empty", x.count(3), 0);
            due("5 a film without a meadow", tell(x, 2, "01" + i), i);
        }
        due("5 a fifth law", tell(x, 1, "y:7"), NONE);
        due("5 its tape stays", x.count(3), 3);
        due("5 a fifth film", tell(x, 2, "77"), NONE);
        due("5 how many persons", tell(x, 0, "p;e;p;mw3d1s5f6;p"), 3);
        due("5 the tape is empty", x.count(3), 0);
        x.law(2);
        x.witness(0, 1, true);
        x.measure(0, 400, 0, 2);
        x.game(1, 0, 1);
        x.image();
        due("5 a fault changes nothing", tell(x, 0, "p;p;f"), NONE);
        due("5 still three", x.count(0), 3);
        due("5 another meadow", tell(x, 0, "p;p;e"), 2);
        int[] counts = {2, 1, 4, 0, 0, 0, 2, 4, NONE, 0, 0, 4, 0};
        for (int what = 0; what < counts.length; what++) {
            due("5 count(" + what + ") of another meadow", x.count(what), counts[what]);
        }
        due("5 no image of this meadow", x.back(), NONE);
        due("5 the law holds no more", x.force(0, 0, 4, 0, 0), 5);
    }

    // ---- 6 to 9: what was told

    private static void personsAndEggs() {
        EggThrow x = meadow("pl0a9r5b3;eb7c1;p;e;pb9");
        int[] persons = {0, 9, 5, 3, 1, 3, 1, 5, 1, 3, 1, 9};
        for (int i = 0; i < persons.length; i++) {
            due("6 person", x.person(i / 4, i % 4), persons[i]);
        }
        due("6 no person", refuses(x, 3, 0), true);
        due("6 no person", refuses(x, -1, 0), true);
        due("6 no what", refuses(x, 0, 4), true);
        due("6 no what", refuses(x, 0, -1), true);
        due("7 bears", x.egg(0, 0), 7);
        due("7 cracked", x.egg(0, 1), 1);
        due("7 usual", x.egg(1, 0), 30);
        due("7 usual", x.egg(1, 1), 0);
        due("7 no egg", x.egg(2, 0), NONE);
        due("7 no egg", x.egg(-1, 0), NONE);
        due("7 no what", x.egg(0, 2), NONE);
        due("7 no what", x.egg(0, -1), NONE);
        due("7 no meadow", new EggThrow().egg(0, 0), NONE);
    }

    private static void lawsHold() {
        EggThrow x = new EggThrow();
        tell(x, 1, "y:7");
        due("8 no meadow", x.law(0), false);
        due("8 no meadow", x.law(NONE), false);
        tell(x, 0, "p;p;e");
        due("8 none holds", x.count(8), NONE);
        due("8 no such law", x.law(1), false);
        due("8 no such law", x.law(-2), false);
        due("8 a law", x.law(0), true);
        due("8 it holds", x.count(8), 0);
        due("8 by it", x.force(0, 0, 60, 0, 0), 7);
        due("8 again", x.law(0), true);
        due("8 a best is by it", x.best(1, 0, 60, 2), 3);
        due("8 none", x.law(NONE), true);
        due("8 none holds", x.count(8), NONE);
        due("8 a best without it", x.best(1, 0, 60, 2), 0);
    }

    private static void toldByHand() {
        EggThrow x = new EggThrow();
        due("9 no meadow", x.set(0, 1), false);
        tell(x, 0, "p;p;e");
        int[] least = {0, 0, 1, 1};
        int[] most = {9, 1, 9, 60};
        for (int what = 0; what < 4; what++) {
            due("9 too much", x.set(what, most[what] + 1), false);
            due("9 too little", x.set(what, least[what] - 1), false);
            due("9 the most", x.set(what, most[what]), true);
            due("9 it is so", x.set(what, most[what]), false);
            due("9 told", x.count(4 + what), most[what]);
            due("9 the least", x.set(what, least[what]), true);
            due("9 told", x.count(4 + what), least[what]);
        }
        due("9 no what", x.set(4, 1), false);
        due("9 no what", x.set(-1, 1), false);
        EggThrow y = meadow("p;p;e");
        due("9 calm", y.best(1, 0, 18, 2), 1);
        y.set(0, 1);
        due("9 the wind is felt", y.best(1, 0, 18, 2), 2);
        y.set(1, 1);
        due("9 its end too", y.best(1, 0, 18, 2), 0);
    }

    // ---- 10 to 13: one throw

    private static void offs() {
        EggThrow x = meadow("mw3d1;pl2b9;p;e");
        due("10 against the wind", x.off(0, 0, 9, 5, 2), 5 + 2 - 6);
        due("10 no bow", x.off(0, 0, 0, 1, -2), -1);
        due("10 cut towards 0", x.off(0, 0, 1, 0, 0), 0);
        due("10 cut towards 0", x.off(0, 0, 3, 0, 0), -2);
        due("10 with the wind", x.off(0, 1, 3, -5, -2), -5);
        int[][] refused = {{2, 0, 0, 0, 0}, {-1, 0, 0, 0, 0}, {0, 2, 0, 0, 0}, {0, -1, 0, 0, 0}, {0, 0, 10, 0, 0},
            {0, 0, -1, 0, 0}, {0, 0, 0, 6, 0}, {0, 0, 0, -6, 0}, {0, 0, 0, 0, 3}, {0, 0, 0, 0, -3}, {1, 0, 6, 0, 0},
            {1, 0, 0, 0, 2}};
        for (int[] r : refused) {
            due("10 refused", x.off(r[0], r[1], r[2], r[3], r[4]), HIDDEN);
        }
        due("10 no meadow", new EggThrow().off(0, 0, 0, 0, 0), HIDDEN);
    }

    private static void forces() {
        EggThrow x = meadow("mw2;pa0;pa9;e");
        due("11 usual", x.force(0, 0, 10, 5, 2), 20 + 9 - 2 + 2);
        due("11 from the other end", x.force(0, 1, 10, 5, 2), 20 + 9 + 2 + 2);
        due("11 too near", x.force(0, 0, 10, 0, -2), 20 + 6 - 2 + 6);
        due("11 an arm that gives", x.force(1, 0, 10, 2, 0), 0);
        due("11 below 0", x.force(1, 0, 1, 0, 0), 0);
        due("11 the highest bow, too far", x.force(0, 0, 1, 9, 99), 2 + 27 - 2 + 99);
        due("11 the farthest", x.force(0, 1, 60, 0, -99), 120 + 45 + 2 + 297);
        int[][] refused = {{2, 0, 1, 0, 0}, {-1, 0, 1, 0, 0}, {0, 2, 1, 0, 0}, {0, -1, 1, 0, 0}, {0, 0, 0, 0, 0},
            {0, 0, 61, 0, 0}, {0, 0, 1, 10, 0}, {0, 0, 1, -1, 0}, {0, 0, 1, 0, 100}, {0, 0, 1, 0, -100}};
        for (int[] r : refused) {
            due("11 refused", x.force(r[0], r[1], r[2], r[3], r[4]), HIDDEN);
        }
        due("11 no meadow", new EggThrow().force(0, 0, 1, 0, 0), HIDDEN);
    }

    /** FORCE over 7 yards, BOW 5, OFF -4, from END 1 against WIND 3, who catches has ARM 6. */
    private static int forceBy(String law) {
        EggThrow x = meadow("mw3;pa6;p;e", law);
        due("5 '" + law + "' is a law", x.count(8), 0);
        return x.force(0, 1, 7, 5, -4);
    }

    private static void worths() {
        due("11 letters", forceBy("y:d*1+b*10+a*100"), 657);
        due("11 more letters", forceBy("y:0-w*10-r"), 34);
        due("11 held above", forceBy("y:1000"), 999);
        due("11 held below", forceBy("y:r"), 0);
        due("11 left to right", forceBy("y:100-10-1"), 89);
        due("11 left to right", forceBy("y:100/7*7"), 98);
        due("11 * ahead of +", forceBy("y:1+2*3"), 7);
        due("11 brackets", forceBy("y:[1+2]*3"), 9);
        due("11 cut towards 0", forceBy("y:10+[0-7]/2"), 7);
        due("11 by 0", forceBy("y:5+7/[d-7]"), 5);
        due("11 numbers are held", forceBy("y:9999*9999-9999*100+7"), 107);
        due("11 numbers are held below", forceBy("y:[0-9999]*9999+9999*100-7+200"), 293 - 200);
        due("11 the first that holds", forceBy("y:d=8?1;y:d=7?2;y:3"), 2);
        due("11 none holds", forceBy("y:d=8?5"), 0);
        due("11 < and >", forceBy("y:d<7?1;y:d>7?2;y:d<8&d>6?3"), 3);
        due("11 & ahead of |", forceBy("y:d=7|d=7&d=8?1;y:2"), 1);
        due("11 & ahead of |", forceBy("y:d=8&d=8|d=7?1;y:2"), 1);
        due("11 (", forceBy("y:(d=7|d=7)&d=8?1;y:2"), 2);
        due("11 !", forceBy("y:!d=7?1;y:!d=8?2"), 2);
        due("11 ! of the next unit alone", forceBy("y:!d=8&d=8?1;y:3"), 3);
        due("11 !!", forceBy("y:!!d=7?1;y:2"), 1);
        due("11 !(", forceBy("y:!(d=8|b=8)?4;y:2"), 4);
        due("11 sums beside signs", forceBy("y:d+1=b+3&[d-2]*2>9?6;y:2"), 6);
    }

    private static void goods() {
        EggThrow x = meadow("p;p;e");
        due("12 all", x.good(1, 0, 12, 5), 3);
        due("12 two", x.good(1, 0, 17, 405), 2);
        due("12 two", x.good(1, 0, 17, 406), 2);
        due("12 one", x.good(10, 1, 18, 404), 1);
        due("12 none", x.good(1, 0, 18, 407), 0);
        due("12 dropped", x.good(1, 0, 4, 0), 0);
        due("12 the highest bow", x.good(1, 0, 4, 510), 0);
        due("12 the bow of who throws", meadow("pb9;pb0;e").good(1, 0, 4, 905), 3);
        due("12 the bow of who throws", meadow("pb9;pb0;e").good(10, 0, 4, 105), NONE);
        due("12 cracked", meadow("p;p;eb61c1").good(1, 0, 18, 405), 1);
        due("12 cracked", meadow("p;p;eb59c1").good(1, 0, 18, 405), 0);
        int[][] refused = {{0, 0, 4, 5}, {11, 0, 4, 5}, {2, 0, 4, 5}, {20, 0, 4, 5}, {-1, 0, 4, 5}, {1, 2, 4, 5},
            {1, 10, 4, 5}, {1, -1, 4, 5}, {1, 0, 0, 5}, {1, 0, 61, 5}, {1, 0, 4, 11}, {1, 0, 4, 600}, {1, 0, 4, -1},
            {101, 0, 4, 5}};
        for (int[] r : refused) {
            due("12 refused", x.good(r[0], r[1], r[2], r[3]), NONE);
        }
        due("12 no meadow", new EggThrow().good(1, 0, 4, 5), NONE);
    }

    private static void bests() {
        EggThrow x = meadow("p;p;e");
        int[] yards = {1, 12, 13, 14, 15, 16, 17, 18, 19, 60};
        int[] bows = {0, 0, 1, 2, 2, 4, 4, 4, 0, 0};
        int[] aims = {0, 0, 0, 0, 0, 0, 0, -1, -5, -5};
        int[] many = {3, 3, 3, 3, 3, 3, 2, 1, 0, 0};
        for (int i = 0; i < yards.length; i++) {
            due("13 bow over " + yards[i], x.best(1, 0, yards[i], 0), bows[i]);
            due("13 aim over " + yards[i], x.best(1, 0, yards[i], 1), aims[i]);
            due("13 good over " + yards[i], x.best(10, 1, yards[i], 2), many[i]);
        }
        EggThrow y = meadow("mw4;p;p;e");
        due("13 the wind carries", y.best(1, 0, 16, 1), -y.best(1, 0, 16, 0));
        int[][] refused = {{0, 0, 4, 0}, {2, 0, 4, 0}, {-1, 0, 4, 0}, {1, 2, 4, 0}, {1, 10, 4, 0}, {1, 0, 0, 0},
            {1, 0, 61, 0}, {1, 0, 4, 3}, {1, 0, 4, -1}};
        for (int[] r : refused) {
            due("13 refused", x.best(r[0], r[1], r[2], r[3]), HIDDEN);
        }
        due("13 no meadow", new EggThrow().best(1, 0, 4, 0), HIDDEN);
    }

    // ---- 14 to 19: pairs

    private static void courses() {
        EggThrow x = meadow("p;p;e");
        int[] comes = {WHOLE, WHOLE, WHOLE, WHOLE, WHOLE, WHOLE, WHOLE, WHOLE, 333333333, 0, 0};
        for (int k = 0; k < comes.length; k++) {
            due("14 comes " + k, x.comes(1, 0, k), comes[k]);
        }
        due("14 far beyond", x.comes(1, 0, 2147483647), 0);
        due("15 far", x.far(1, 0), 8);
        due("16 hope", x.hope(1, 0), 7333333333L);
        x.set(0, 1);
        due("14 the ends change about", x.comes(1, 0, 8), 0);
        due("14 from the other end", x.comes(1, 1, 8), 666666666);
        due("16 with the wind", x.hope(1, 0), 7000000000L);
        due("16 from the other end", x.hope(1, 1), 7666666666L);
        due("15 with the wind", x.far(1, 0), 7);
        EggThrow all = meadow("ms1f1;p;p;e", "y:0");
        due("14 all sixty", all.comes(1, 0, 60), WHOLE);
        due("14 no more", all.comes(1, 0, 61), 0);
        due("15 sixty", all.far(1, 0), 60);
        due("16 sixty", all.hope(1, 0), 60000000000L);
        EggThrow other = meadow("pl0;pl1;eb28");
        due("14 who throws has the slips", other.comes(1, 0, 7), WHOLE);
        due("14 refused", x.comes(1, 0, -1), NONE);
        int[][] refused = {{0, 0}, {2, 0}, {-1, 0}, {1, 2}, {1, 10}, {1, -1}, {22, 0}};
        for (int[] r : refused) {
            due("14 refused", x.comes(r[0], r[1], 1), NONE);
            due("15 refused", x.far(r[0], r[1]), NONE);
            due("16 refused", x.hope(r[0], r[1]), NONE);
        }
        due("14 no meadow", new EggThrow().comes(1, 0, 0), NONE);
        due("15 no meadow", new EggThrow().far(1, 0), NONE);
        due("16 no meadow", new EggThrow().hope(1, 0), NONE);
    }

    private static void firsts() {
        EggThrow x = meadow("p;p;e");
        due("17 all alike", x.first(1, 0, 0), 0);
        due("17 all alike", x.first(10, 0, 0), 0);
        due("17 hope", x.first(10, 0, 1), 7333333333L);
        x.set(0, 1);
        due("17 from the other end", x.first(1, 0, 0), 1);
        due("17 hope", x.first(1, 0, 1), 7666666666L);
        EggThrow y = meadow("mf60;p;p;pa9;e", "y:100-a*10");
        due("17 who catches better", y.first(20, 0, 0), 0);
        due("17 who catches better", y.first(21, 0, 0), 10);
        due("17 nobody", y.first(1, 0, 1), 0);
        int[][] refused = {{0, 0, 0}, {3, 0, 0}, {-1, 0, 0}, {1, 1, 0}, {1, -1, 0}, {1, 0, 2}, {1, 0, -1}};
        for (int[] r : refused) {
            due("17 refused", x.first(r[0], r[1], r[2]), NONE);
        }
        due("17 no meadow", new EggThrow().first(1, 0, 0), NONE);
    }

    private static void whoms() {
        due("18 one pair", meadow("p;p;e").whom(0), 10);
        due("18 one pair", meadow("p;p;e").whom(1), 7333333333L);
        EggThrow x = meadow("mf60;pa3;pa9;pa0;pa0;e;e", "y:a*10");
        due("18 of several the least", x.whom(0), 2301);
        due("18 together", x.whom(1), 2000000000L);
        EggThrow six = meadow("mf60;pa9;pa9;pa9;pa0;pa0;pa0;e", "y:a*10");
        due("18 six", six.whom(0), 345012);
        due("18 six", six.whom(1), 3000000000L);
        due("18 odd", meadow("p;p;p;e").whom(0), NONE);
        due("18 no what", x.whom(2), NONE);
        due("18 no what", x.whom(-1), NONE);
        due("18 no meadow", new EggThrow().whom(0), NONE);
    }

    private static void whiches() {
        EggThrow x = meadow("p;p;eb10;e;e");
        due("16 an egg that bears 10", x.hope(1, 0), 2333333333L);
        due("19 of several the lowest", x.which(1, 0, 0), 1);
        due("19 hope", x.which(1, 0, 1), 7333333333L);
        due("25 lot", x.lot(1, 0), 16999999999L / 3);
        x.set(0, 1);
        due("19 from an end", x.which(1, 1, 1), 7666666666L);
        due("25 from an end", meadow("mw1;p;p;e").lot(1, 1), 7666666666L);
        int[][] refused = {{0, 0}, {2, 0}, {-1, 0}, {1, 2}, {1, -1}};
        for (int[] r : refused) {
            due("19 refused", x.which(r[0], r[1], 0), NONE);
            due("25 refused", x.lot(r[0], r[1]), NONE);
        }
        due("19 no what", x.which(1, 0, 2), NONE);
        due("19 no what", x.which(1, 0, -1), NONE);
        due("19 no meadow", new EggThrow().which(1, 0, 0), NONE);
        due("25 no meadow", new EggThrow().lot(1, 0), NONE);
    }

    // ---- 20 to 22: eggs and arms

    private static void witnesses() {
        EggThrow x = meadow("p;p;e;ec1");
        due("21 all", x.strong(0, 0), 99);
        due("21 all", x.strong(0, 1), 1);
        due("21 all", x.strong(0, 2), 99);
        due("20 one", x.witness(0, 20, true), 1);
        due("20 two", x.witness(0, 41, false), 2);
        due("20 of another", x.witness(1, 20, true), 3);
        due("20 of another", x.witness(1, 22, false), 4);
        due("21 many", x.strong(0, 0), 21);
        due("21 least", x.strong(0, 1), 20);
        due("21 greatest", x.strong(0, 2), 40);
        due("21 cracked", x.strong(1, 0), 4);
        due("21 cracked", x.strong(1, 1), 40);
        due("21 cracked", x.strong(1, 2), 43);
        x.witness(0, 999, true);
        due("21 none", x.strong(0, 0), 0);
        due("21 none", x.strong(0, 1), NONE);
        due("21 none", x.strong(0, 2), NONE);
        due("20 no egg", x.witness(2, 1, true), NONE);
        due("20 no egg", x.witness(-1, 1, true), NONE);
        due("20 too much", x.witness(0, 1000, true), NONE);
        due("20 too little", x.witness(0, -1, true), NONE);
        for (int i = 6; i <= 20; i++) {
            due("20 more", x.witness(0, 0, true), i);
        }
        due("20 there are 20", x.witness(0, 0, true), NONE);
        due("20 there are 20", x.count(9), 20);
        due("20 no meadow", new EggThrow().witness(0, 0, true), NONE);
        int[][] refused = {{2, 0}, {-1, 0}, {0, 3}, {0, -1}};
        for (int[] r : refused) {
            due("21 refused", x.strong(r[0], r[1]), HIDDEN);
        }
        due("21 no meadow", new EggThrow().strong(0, 0), HIDDEN);
    }

    private static void armsAndLegs() {
        EggThrow x = meadow("p;p;e");
        int[] arms = {1023, 1020, 1016, 1008, 0};
        int[] legs = {63, 63, 62, 60, 0};
        for (int least = 0; least < arms.length; least++) {
            due("22 arms", x.arms(1, 0, 17, 405, least), arms[least]);
            due("28 legs", x.legs(1, 0, 17, 406, least), legs[least]);
        }
        due("22 eleven", x.arms(1, 0, 17, 405, 11), 0);
        due("28 eleven", x.legs(1, 0, 17, 406, 11), 0);
        EggThrow wide = meadow("pl5;pr5;e", "y:0");
        due("22 eleven slips", wide.arms(1, 0, 60, 5, 11), 1023);
        due("28 eleven slips", wide.legs(1, 0, 60, 5, 11), 32);
        int[][] refused = {{0, 0, 4, 5, 0}, {2, 0, 4, 5, 0}, {1, 2, 4, 5, 0}, {1, 10, 4, 5, 0}, {1, 0, 0, 5, 0},
            {1, 0, 61, 5, 0}, {1, 0, 4, 11, 0}, {1, 0, 4, 605, 0}, {1, 0, 4, -1, 0}, {1, 0, 4, 5, 12}, {1, 0, 4, 5, -1}};
        for (int[] r : refused) {
            due("22 refused", x.arms(r[0], r[1], r[2], r[3], r[4]), NONE);
            due("28 refused", x.legs(r[0], r[1], r[2], r[3], r[4]), NONE);
        }
        due("22 no meadow", new EggThrow().arms(1, 0, 4, 5, 0), NONE);
        due("28 no meadow", new EggThrow().legs(1, 0, 4, 5, 0), NONE);
    }

    // ---- 23 to 32: pairs against pairs, and what else could be

    private static void bolds() {
        EggThrow x = meadow("p;p;e;e", "y:0");
        due("23 one rest", x.bold(1, 10, 1, 2, NONE), 1);
        due("23 the longest steps", x.bold(1, 10, 1, 2, 0), 33);
        due("23 no second", x.bold(1, 10, 1, 2, 1), NONE);
        due("23 the first throw has no step", x.bold(1, 1, 0, 1, NONE), 9);
        x.set(3, 58);
        due("23 60 would be passed", x.bold(1, 1, 0, 2, NONE), 1);
        due("23 60 would be passed", x.bold(1, 1, 0, 2, 0), 22);
        x.set(3, 60);
        int[] rests = {11, 12, 13, 21, 22, 23, 31, 32, 33, NONE};
        for (int i = 0; i < rests.length; i++) {
            due("23 rising", x.bold(1, 1, 0, 2, i), rests[i]);
        }
        EggThrow y = meadow("p;p;e;eb99", "y:d=6?50;y:d=7?50;y:0");
        due("23 an egg each", y.bold(1, 1, 1, 2, NONE), 1);
        due("23 an egg each", y.bold(1, 1, 1, 2, 0), 13);
        due("23 an egg each", y.bold(1, 1, 10, 2, 0), 31);
        due("23 k 9", y.bold(1, 1, 11, 9, 0), 33);
        int[][] refused = {{0, 1, 0, 1, 0}, {1, 11, 0, 1, 0}, {2, 1, 0, 1, 0}, {1, 20, 0, 1, 0}, {1, 1, 2, 1, 0},
            {1, 1, 20, 1, 0}, {1, 1, -1, 1, 0}, {1, 1, 0, 0, 0}, {1, 1, 0, 10, 0}, {1, 1, 0, 1, -2}, {-1, 1, 0, 1, 0}};
        for (int[] r : refused) {
            due("23 refused", y.bold(r[0], r[1], r[2], r[3], r[4]), NONE);
        }
        due("23 no meadow", new EggThrow().bold(1, 1, 0, 1, 0), NONE);
    }

    private static void duels() {
        EggThrow x = meadow("p;p;e;eb10");
        // just 7: 666666667, just 8: 333333333; fewer than 8: 666666667
        due("24 farther", x.duel(1, 10, 0, 0), 333333333L * 666666667L / WHOLE);
        due("24 as far", x.duel(1, 10, 0, 1), 666666667L * 666666667L / WHOLE + 333333333L * 333333333L / WHOLE);
        due("24 an egg each", x.duel(1, 1, 1, 0), WHOLE);
        due("24 an egg each", x.duel(1, 1, 10, 0), 0);
        due("24 an egg each", x.duel(1, 1, 10, 1), 0);
        int[][] refused = {{0, 1, 0, 0}, {1, 11, 0, 0}, {2, 1, 0, 0}, {1, 20, 0, 0}, {1, 1, 2, 0}, {1, 1, 20, 0},
            {1, 1, -1, 0}, {1, 1, 0, 2}, {1, 1, 0, -1}};
        for (int[] r : refused) {
            due("24 refused", x.duel(r[0], r[1], r[2], r[3]), NONE);
        }
        due("24 no meadow", new EggThrow().duel(1, 1, 0, 0), NONE);
        EggThrow out = meadow("p;p;e", "y:99");
        EggThrow all = meadow("ms1f1;p;p;e", "y:0");
        due("24 all sixty, as far", all.duel(1, 1, 0, 1), WHOLE);
        due("24 none at all", out.duel(1, 1, 0, 0), 0);
        due("24 none at all, as far", out.duel(1, 1, 0, 1), WHOLE);
    }

    private static void safesAndSpots() {
        EggThrow x = meadow("p;p;e");
        due("26 safe", x.safe(1, 0), 16);
        due("26 sixty", meadow("p;p;e", "y:0").safe(1, 0), 60);
        due("26 none", meadow("p;p;e", "y:99").safe(1, 0), NONE);
        due("26 all slips of who throws", meadow("pl0;p;e").safe(1, 0), 18);
        due("26 all slips of who throws", meadow("pl0;p;e").safe(10, 0), 16);
        due("26 the most, not the first gap", meadow("p;p;e", "y:d=9?0;y:99").safe(1, 0), 9);
        int[] two = {66, 4, 2, 0};
        int[] one = {66, 3, 0, 0};
        for (int least = 0; least < two.length; least++) {
            due("27 spots over 17", x.spots(1, 0, 17, least), two[least]);
            due("27 spots over 18", x.spots(1, 0, 18, least), one[least]);
        }
        due("27 eleven", x.spots(1, 0, 4, 11), 0);
        int[][] refused = {{0, 0, 4, 1}, {2, 0, 4, 1}, {1, 2, 4, 1}, {1, 10, 4, 1}, {1, 0, 0, 1}, {1, 0, 61, 1},
            {1, 0, 4, 12}, {1, 0, 4, -1}};
        for (int[] r : refused) {
            due("27 refused", x.spots(r[0], r[1], r[2], r[3]), NONE);
        }
        for (int i = 0; i < 4; i++) {
            due("26 refused", x.safe(refused[i][0], refused[i][1]), NONE);
        }
        due("26 no meadow", new EggThrow().safe(1, 0), NONE);
        due("27 no meadow", new EggThrow().spots(1, 0, 4, 0), NONE);
    }

    private static void strides() {
        EggThrow x = meadow("p;p;e", "y:d=5?99;y:0");
        due("29 past what breaks", x.stride(1, 0, 0), 2);
        due("29 how much", x.stride(1, 0, 1), 928000);
        due("29 the step is as it was", x.count(6), 2);
        x.set(3, 60);
        due("29 of several the least", x.stride(1, 0, 0), 1);
        due("29 one throw", x.stride(1, 0, 1), 60000);
        due("29 cut each", meadow("mf18s9;p;p;e").stride(1, 0, 1), 18 * 333333333L / 1000000);
        int[][] refused = {{0, 0, 0}, {2, 0, 0}, {1, 2, 0}, {1, 10, 0}, {1, 0, 2}, {1, 0, -1}};
        for (int[] r : refused) {
            due("29 refused", x.stride(r[0], r[1], r[2]), NONE);
            due("31 refused", x.calm(r[0], r[1], r[2]), NONE);
        }
        due("29 no meadow", new EggThrow().stride(1, 0, 0), NONE);
        due("31 no meadow", new EggThrow().calm(1, 0, 0), NONE);
    }

    private static void ranks() {
        EggThrow x = meadow("mf60;pa3;pa9;pa0;e;eb99", "y:a*10");
        int[] weak = {2, 12, 1, NONE};
        int[] firm = {1, 2, 12, NONE};
        for (int i = 0; i < weak.length; i++) {
            due("30 by hope", x.rank(0, i), weak[i]);
            due("30 of several the least", x.rank(1, i), firm[i]);
        }
        due("30 no i", x.rank(0, -1), NONE);
        due("30 no egg", x.rank(2, 0), NONE);
        due("30 no egg", x.rank(-1, 0), NONE);
        due("30 no meadow", new EggThrow().rank(0, 0), NONE);
        due("30 the last of fifteen", meadow("p;p;p;p;p;p;e").rank(0, 14), 45);
        due("30 no sixteenth", meadow("p;p;p;p;p;p;e").rank(0, 15), NONE);
    }

    private static void winds() {
        EggThrow x = meadow("mf60;p;p;eb99", "y:[4-w]*40");
        due("31 of several the least", x.calm(1, 0, 0), 2);
        due("31 hope", x.calm(1, 0, 1), WHOLE);
        due("31 from the other end", x.calm(1, 1, 0), 0);
        due("31 nobody", x.calm(1, 1, 1), 0);
        due("31 the wind is as it was", x.count(4), 0);
        due("42 none of two", x.gusty(1, 0, 1), 0);
        due("42 one of three", x.gusty(1, 0, 2), 333333333);
        due("42 eight of ten", x.gusty(1, 0, 9), 800000000);
        EggThrow y = meadow("p;p;e");
        due("42 calm alone", y.gusty(1, 0, 0), 7333333333L);
        due("42 cut", y.gusty(1, 0, 1), 7166666666L);
        due("42 from the other end", y.gusty(1, 1, 1), (7333333333L + 7666666666L) / 2);
        int[][] refused = {{0, 0, 0}, {2, 0, 0}, {1, 2, 0}, {1, 10, 0}, {1, 0, 10}, {1, 0, -1}};
        for (int[] r : refused) {
            due("42 refused", y.gusty(r[0], r[1], r[2]), NONE);
        }
        due("42 no meadow", new EggThrow().gusty(1, 0, 0), NONE);
    }

    private static void learns() {
        // by BOW 0: five throws; over 14 yards BOW 1 is good for two, 2 for all; over 16 BOW 3 for two, 4 for all
        EggThrow x = meadow("pb0;pb0;e");
        int[][] cases = {{0, WHOLE, 0}, {5, WHOLE, 0}, {6, 0, 0}, {6, 1, 1}, {6, 666666666, 1}, {6, 666666667, 2},
            {7, WHOLE, 42}, {7, 666666666, 32}, {7, 444444444, 31}, {8, 333333333, 44}, {8, 333333334, NONE},
            {9, 1, NONE}, {9, 0, 0}, {60, 0, 0}, {60, 1, NONE}};
        for (int[] c : cases) {
            due("32 learn " + c[0] + " " + c[1], x.learn(1, 0, c[0], c[1]), c[2]);
        }
        due("32 the bows are as they were", x.person(0, 3), 0);
        due("32 the slips of each", meadow("pb0;pl0b0;e").learn(1, 0, 8, WHOLE), 44);
        due("32 nine at most", meadow("pb9;pb9;e").learn(1, 0, 8, 333333333), 0);
        due("32 up to nine", meadow("mf60;pb0;p;e", "y:9-b").learn(1, 0, 1, 1), 0);
        due("32 up to nine", meadow("mf60;pb0;p;eb1", "y:[9-b]*2").learn(1, 0, 1, 1), 90);
        due("32 both up to nine", meadow("mf58;pb0;pb0;eb1", "y:[9-b]*2").learn(1, 0, 2, 1), 99);
        due("32 higher ones already", meadow("pb3;pb1;e").learn(1, 0, 7, WHOLE), 11);
        int[][] refused = {{0, 0, 1, 1}, {2, 0, 1, 1}, {1, 2, 1, 1}, {1, 10, 1, 1}, {1, 0, 61, 0}, {1, 0, -1, 0},
            {1, 0, 1, -1}, {1, 0, 1, WHOLE + 1}};
        for (int[] r : refused) {
            due("32 refused", x.learn(r[0], r[1], r[2], r[3]), NONE);
        }
        due("32 no meadow", new EggThrow().learn(1, 0, 0, 0), NONE);
    }

    // ---- 33 to 35: films

    private static void films() {
        String[] told = {"0121012", "1 1 2 2 1 1 3", "5", "012345678901234567890123"};
        int[] turns = {2, 2, 0, 4};
        int[] lengths = {7, 7, 1, 24};
        EggThrow x = new EggThrow();
        due("33 none", x.film(0, 0), NONE);
        for (int i = 0; i < told.length; i++) {
            tell(x, 2, told[i]);
            due("33 turns", x.film(i, 0), turns[i]);
            due("33 length", x.film(i, 1), lengths[i]);
        }
        // film 0: raw * 3 by (raw * 3 + others * 2)
        due("34 half", x.raw(0, 50, 0), 3);
        due("34 half", x.raw(0, 50, 1), 5);
        due("34 none raw", x.raw(0, 0, 0), 0);
        due("34 none raw", x.raw(0, 0, 1), 1);
        due("34 all raw", x.raw(0, 100, 0), 1);
        due("34 all raw", x.raw(0, 100, 1), 1);
        // film 3: 10 * 5 by (10 * 5 + 90 * 7), by 10
        due("34 some", x.raw(3, 10, 0), 5);
        due("34 some", x.raw(3, 10, 1), 68);
        due("34 not all of 100", x.raw(2, 99, 0), 99);
        due("34 not all of 100", x.raw(2, 99, 1), 100);
        due("35 itself", x.like(0, 0), 0);
        due("35 as long", x.like(0, 1), 4);
        due("35 longer", x.like(2, 1), 7);
        due("35 shorter", x.like(3, 2), 24);
        due("35 a part alike", x.like(0, 3), 4 + 17);
        int[][] refused = {{4, 0, 0}, {-1, 0, 0}, {0, 101, 0}, {0, -1, 0}, {0, 0, 2}, {0, 0, -1}};
        for (int[] r : refused) {
            due("34 refused", x.raw(r[0], r[1], r[2]), NONE);
        }
        due("33 no what", x.film(0, 2), NONE);
        due("33 no what", x.film(0, -1), NONE);
        due("33 no film", x.film(4, 0), NONE);
        due("35 no film", x.like(4, 0), NONE);
        due("35 no film", x.like(0, -1), NONE);
        tell(x, 0, "p;p;e");
        due("33 a meadow leaves films", x.film(0, 0), 2);
        due("34 a meadow leaves films", x.raw(0, 50, 1), 5);
    }

    private static void flatTops() {
        String[] told = {"122", "221", "1221", "2112", "11211", "00", "1232321", "121212121212121212121212"};
        int[] turns = {0, 0, 1, 1, 1, 0, 3, 22};
        for (int i = 0; i < told.length; i++) {
            EggThrow x = new EggThrow();
            tell(x, 2, told[i]);
            due("33 turns of " + told[i], x.film(0, 0), turns[i]);
        }
    }

    // ---- 36, 37, 47 to 52: games

    private static long next(long x) {
        return x * 6364136223846793005L + 1442695040888963407L;
    }

    /** Whether the n-th draw of three by a seed is the last of them, a slip of 1. */
    private static boolean slipsFar(long seed, int n) {
        long x = seed;
        for (int i = 0; i < n; i++) {
            x = next(x);
        }
        return (x >>> 33) % 3 == 2;
    }

    /** In the usual meadow the eighth throw alone hangs on its slip: it is aimed at OFF -1. */
    private static void gamesByDraws() {
        for (long seed = -20; seed < 20; seed++) {
            EggThrow x = meadow("p;p;e");
            due("47 game by " + seed, x.game(1, 0, seed), slipsFar(seed, 8) ? 8 : 7);
            due("47 a draw for no slip too", meadow("pl0;p;e").game(1, 0, seed), slipsFar(seed, 8) ? 8 : 7);
            EggThrow four = meadow("p;p;p;p;e");
            boolean one = slipsFar(seed, 15);
            boolean other = slipsFar(seed, 16);
            due("36 winners by " + seed, four.fete(1032, seed, 0), one == other ? 5 : one ? 1 : 4);
            due("36 rounds by " + seed, four.fete(1032, seed, 1), one && other ? 9 : 8);
        }
        due("47 till 60 yards", meadow("ms1f1;p;p;e", "y:0").game(1, 0, 5), 60);
        due("47 one throw", meadow("mf60;p;p;e", "y:0").game(10, 1, 5), 1);
        due("47 none", meadow("p;p;e", "y:99").game(1, 0, 5), 0);
    }

    private static void fetes() {
        EggThrow x = meadow("p;p;e");
        due("36 one pair", x.fete(10, 3, 0), 1);
        due("36 one pair", x.fete(10, 3, 1), 0);
        EggThrow six = meadow("p;p;p;p;p;p;eb1;eb99", "y:2");
        due("36 eggs by turns", six.fete(103254, 3, 0), 1 << 2);
        due("36 one alone is left", six.fete(103254, 3, 1), 1);
        due("36 other pairs", six.fete(543210, 3, 0), 1 << 1);
        EggThrow all = meadow("mf50s4;p;p;p;p;p;p;e", "y:2");
        due("36 60 yards", all.fete(230154, 3, 0), 1 | 2 | 16);
        due("36 60 yards", all.fete(230154, 3, 1), 3);
        int[] refused = {10, 1032, 102345, 543211, 1543210, -1, 123450, 3254};
        for (int pairs : refused) {
            due("36 no pairs " + pairs, six.fete(pairs, 3, 0), NONE);
            due("37 no pairs " + pairs, six.crown(pairs, 0), NONE);
        }
        due("36 no what", six.fete(103254, 3, 2), NONE);
        due("36 no what", six.fete(103254, 3, -1), NONE);
        due("36 odd", meadow("p;p;p;e").fete(102, 3, 0), NONE);
        due("36 no meadow", new EggThrow().fete(0, 3, 0), NONE);
        due("37 no meadow", new EggThrow().crown(0, 0), NONE);
    }

    private static void crowns() {
        EggThrow x = meadow("p;p;p;p;p;p;e");
        long two = 333333333L * 666666667L / WHOLE;
        due("37 one pair", meadow("p;p;e").crown(10, 0), WHOLE);
        due("37 one pair, all sixty", meadow("ms1f1;p;p;e", "y:0").crown(10, 0), WHOLE);
        due("37 two pairs", meadow("p;p;p;p;e").crown(1032, 2), two);
        due("37 three pairs", x.crown(103254, 4), two * 666666667L / WHOLE);
        EggThrow y = meadow("p;p;p;p;e;eb10");
        due("37 eggs by turns", y.crown(2301, 0), WHOLE);
        due("37 eggs by turns", y.crown(2301, 1), 0);
        due("37 not a lower one", y.crown(2301, 2), NONE);
        due("37 no such one", y.crown(2301, 4), NONE);
        due("37 no such one", y.crown(2301, -1), NONE);
    }

    private static void gamesPutBy() {
        EggThrow x = meadow("mf60;p;p;e;e", "y:a-3+d-d+b-b");
        due("49 none", x.champion(), NONE);
        due("50 none", x.undo(), NONE);
        due("48 none", x.played(0, 0), NONE);
        due("51 no games", x.image(), 0);
        due("47 caught", x.game(10, 11, 4), 1);
        x.law(NONE);
        due("47 not caught", x.game(1, 0, 4), 0);
        x.set(3, 4);
        due("47 many", x.game(1, 10, 4) >= 7, true);
        due("48 the two", x.played(0, 0), 10);
        due("48 the egg and end", x.played(0, 1), 11);
        due("48 caught", x.played(1, 2), 0);
        due("48 no what", x.played(0, 3), NONE);
        due("48 no what", x.played(0, -1), NONE);
        due("48 no game", x.played(3, 0), NONE);
        due("48 no game", x.played(-1, 0), NONE);
        due("49 the most", x.champion(), 2);
        x.game(1, 10, 4);
        due("49 of several the first", x.champion(), 2);
        due("50 undone", x.undo(), 3);
        due("50 undone", x.undo(), 2);
        due("49 another", x.champion(), 0);
        due("51 two games", x.image(), 2);
        x.set(0, 9);
        x.set(1, 1);
        x.set(2, 9);
        x.set(3, 9);
        x.law(0);
        x.witness(0, 1, true);
        for (int i = 3; i <= 40; i++) {
            x.game(1, 0, 4);
        }
        due("47 there are 40", x.game(1, 0, 4), NONE);
        due("47 there are 40", x.count(10), 40);
        due("52 back", x.back(), 2);
        int[] counts = {2, 2, 1, 0, 0, 0, 2, 4, 0, 1, 2, 0, 0};
        for (int what = 0; what < counts.length; what++) {
            due("52 count(" + what + ")", x.count(what), counts[what]);
        }
        due("52 the games are so", x.played(1, 0), 1);
        x.undo();
        x.undo();
        due("52 back again", x.back(), 2);
        due("52 the games are so", x.played(0, 1), 11);
        x.undo();
        due("51 instead of the one ahead", x.image(), 1);
        x.game(1, 0, 4);
        due("52 the later one", x.back(), 1);
    }

    private static void gamesRefused() {
        EggThrow x = meadow("p;p;e");
        int[][] refused = {{0, 0}, {2, 0}, {-1, 0}, {1, 2}, {1, 10}, {1, -1}};
        for (int[] r : refused) {
            due("47 refused", x.game(r[0], r[1], 1), NONE);
        }
        due("47 nothing was put by", x.count(10), 0);
        due("52 no image", x.back(), NONE);
        due("52 the wind behind back", windBehindBack(), 2);
        due("47 no meadow", new EggThrow().game(1, 0, 1), NONE);
        due("48 no meadow", new EggThrow().played(0, 0), NONE);
        due("49 no meadow", new EggThrow().champion(), NONE);
        due("50 no meadow", new EggThrow().undo(), NONE);
    }

    private static int windBehindBack() {
        EggThrow x = meadow("mw1;p;p;e");
        x.image();
        x.set(0, 0);
        x.best(1, 0, 18, 2);
        x.back();
        return x.best(1, 0, 18, 2);
    }

    // ---- 38 to 41: rows of eggs, and what would do

    private static void cartons() {
        EggThrow x = meadow("mf16;p;p;e;eb40;eb40");
        due("38 the firm one for the far", x.carton(1, 0, 2, 0), 1);
        due("38 parts", x.carton(1, 0, 2, 1), WHOLE);
        due("38 one throw, the least", x.carton(1, 0, 1, 0), 0);
        due("38 three", x.carton(1, 0, 3, 0), 12);
        due("38 the firm one first told", meadow("mf16;p;p;eb40;e").carton(1, 0, 2, 0), 10);
        EggThrow none = meadow("mf16;p;p;eb1;eb1;eb1");
        due("38 none is caught", none.carton(1, 0, 3, 0), 12);
        due("38 none is caught", none.carton(1, 0, 3, 1), 0);
        EggThrow far = meadow("mf56;p;p;e;e;e;e", "y:0");
        due("38 60 yards", far.carton(1, 0, 3, 1), WHOLE);
        due("38 60 would be passed", far.carton(1, 0, 4, 1), NONE);
        due("38 the end", meadow("mf18w1;p;p;e").carton(1, 0, 1, 1), 666666666);
        due("38 the end", meadow("mf18w1;p;p;e").carton(1, 1, 1, 1), 0);
        int[][] refused = {{0, 0, 1, 0}, {2, 0, 1, 0}, {-1, 0, 1, 0}, {1, 2, 1, 0}, {1, -1, 1, 0}, {1, 0, 0, 0},
            {1, 0, 4, 0}, {1, 0, 1, 2}, {1, 0, 1, -1}};
        for (int[] r : refused) {
            due("38 refused", x.carton(r[0], r[1], r[2], r[3]), NONE);
        }
        due("38 no meadow", new EggThrow().carton(1, 0, 1, 0), NONE);
    }

    private static void spares() {
        EggThrow x = meadow("p;p;eb99;eb40;eb81c1;eb40;e");
        due("39 of several the lowest", x.spare(1, 0, 18), 1);
        due("39 a weak one will do", x.spare(1, 0, 16), 4);
        due("39 none", x.spare(1, 0, 60), NONE);
        due("39 cracked", meadow("p;p;eb99;eb79c1").spare(1, 0, 16), 1);
        EggThrow y = meadow("mw1;p;p;eb30");
        due("39 with the wind", y.spare(1, 0, 17), 0);
        due("39 against it", y.spare(1, 1, 17), NONE);
        int[][] refused = {{0, 0, 4}, {2, 0, 4}, {-1, 0, 4}, {1, 2, 4}, {1, -1, 4}, {1, 0, 0}, {1, 0, 61}};
        for (int[] r : refused) {
            due("39 refused", x.spare(r[0], r[1], r[2]), NONE);
        }
        due("39 no meadow", new EggThrow().spare(1, 0, 4), NONE);
    }

    private static void leasts() {
        EggThrow x = meadow("p;p;e");
        due("40 armed", x.least(1, 0, 16, 0), 3);
        due("40 armed", x.least(1, 0, 17, 0), 4);
        due("40 armed at all", x.least(1, 0, 1, 0), 0);
        due("40 never armed", x.least(1, 0, 60, 0), NONE);
        due("40 legged", x.least(1, 0, 4, 1), 1);
        due("40 legged, aimed too far", x.least(1, 0, 17, 1), 2);
        due("40 never legged", x.least(1, 0, 60, 1), NONE);
        due("40 no slips", meadow("pl0;p;e").least(1, 0, 4, 1), 0);
        due("40 five slips", meadow("pl5;p;e", "y:0").least(1, 0, 4, 1), 5);
        int[][] refused = {{0, 0, 4, 0}, {2, 0, 4, 0}, {1, 2, 4, 0}, {1, 10, 4, 0}, {1, 0, 0, 0}, {1, 0, 61, 0},
            {1, 0, 4, 2}, {1, 0, 4, -1}};
        for (int[] r : refused) {
            due("40 refused", x.least(r[0], r[1], r[2], r[3]), NONE);
        }
        due("40 no meadow", new EggThrow().least(1, 0, 4, 0), NONE);
    }

    private static void lofts() {
        EggThrow x = meadow("p;p;e");
        due("41 aim", x.loft(1, 0, 17, 4, 0), 0);
        due("41 good", x.loft(1, 0, 17, 4, 1), 2);
        due("41 nearest to 0", x.loft(1, 0, 18, 4, 0), 0);
        due("41 none", x.loft(1, 0, 60, 0, 0), 0);
        due("41 none", x.loft(1, 0, 60, 0, 1), 0);
        EggThrow y = meadow("pl0;p;e", "y:r=0?99;y:0");
        due("41 then the one below", y.loft(1, 0, 4, 0, 0), -1);
        due("41 good", y.loft(1, 0, 4, 0, 1), 1);
        EggThrow z = meadow("pl0;p;e", "y:r<1?99;y:0");
        due("41 above 0", z.loft(1, 0, 4, 0, 0), 1);
        EggThrow wind = meadow("mw4;p;p;e");
        due("41 against the wind", wind.loft(1, 0, 8, 3, 0), -3);
        due("41 with the wind", wind.loft(1, 1, 8, 3, 0), 3);
        int[][] refused = {{0, 0, 4, 0, 0}, {2, 0, 4, 0, 0}, {1, 2, 4, 0, 0}, {1, 10, 4, 0, 0}, {1, 0, 0, 0, 0},
            {1, 0, 61, 0, 0}, {1, 0, 4, 6, 0}, {1, 0, 4, -1, 0}, {1, 0, 4, 0, 2}, {1, 0, 4, 0, -1}};
        for (int[] r : refused) {
            due("41 refused", x.loft(r[0], r[1], r[2], r[3], r[4]), HIDDEN);
        }
        due("41 no meadow", new EggThrow().loft(1, 0, 4, 0, 0), HIDDEN);
    }

    // ---- 43 to 46, 53

    private static void measures() {
        EggThrow x = meadow("p;p;e");
        due("44 none measured, no laws", x.held(), 16);
        tell(x, 1, "y:5");
        tell(x, 1, "y:d+1");
        tell(x, 1, "y:6");
        due("44 none measured", x.held(), 23);
        due("43 one", x.measure(1, 400, 0, 5), 1);
        due("43 the bounds", meadow("p;p;e").measure(1, 191, 99, 999), 1);
        due("43 the bounds", meadow("p;p;e").measure(1, 6000, -99, 0), 1);
        due("44 it is so by some", x.held(), 16 + 1 + 2);
        due("43 two", x.measure(0, 421, -2, 8 + 3 - 6 + 6), 2);
        due("44 by none of the laws", x.held(), 16);
        x.set(0, 1);
        due("44 the wind as it is", x.held(), 0);
        x.set(0, 0);
        due("44 the wind as it is", x.held(), 16);
        EggThrow y = meadow("mw2d1;pa4;p;e", "y:a*w+r");
        y.measure(0, 6091, -99, 0);
        y.measure(0, 191, 99, 107);
        due("44 arm, wind and end", y.held(), 1);
        int[][] refused = {{2, 400, 0, 5}, {-1, 400, 0, 5}, {1, 402, 0, 5}, {1, 90, 0, 5}, {1, 6100, 0, 5},
            {1, -400, 0, 5}, {1, 400, 100, 5}, {1, 400, -100, 5}, {1, 400, 0, 1000}, {1, 400, 0, -1}};
        for (int[] r : refused) {
            due("43 refused", x.measure(r[0], r[1], r[2], r[3]), NONE);
        }
        for (int i = 3; i <= 20; i++) {
            due("43 more", x.measure(1, 400, 0, 5), i);
        }
        due("43 there are 20", x.measure(1, 400, 0, 5), NONE);
        due("43 there are 20", x.count(12), 20);
        due("43 no meadow", new EggThrow().measure(0, 400, 0, 5), NONE);
        due("44 no meadow", new EggThrow().held(), NONE);
    }

    private static void rows() {
        EggThrow x = meadow("pa3;pa9;pa0;e", "y:a*10");
        due("45 whole", x.chain(102, 0, 5), WHOLE);
        due("45 broken", x.chain(12, 0, 5), 0);
        due("46 of several the least", x.row(0, 5, 0), 102);
        due("46 parts", x.row(0, 5, 1), WHOLE);
        EggThrow y = meadow("p;p;p;e");
        due("45 parts", y.chain(210, 0, 18), 111111111);
        due("45 parts", y.chain(12, 0, 17), 444444444);
        due("46 all alike", y.row(0, 18, 0), 12);
        due("46 parts", y.row(0, 18, 1), 111111111);
        due("46 none", y.row(0, 60, 0), 12);
        due("46 none", y.row(0, 60, 1), 0);
        int[] refused = {0, 10, 11, 112, 123, 1012, -12, 2147483647, 120};
        for (int i = 0; i < 8; i++) {
            due("45 no row " + refused[i], y.chain(refused[i], 0, 4), NONE);
        }
        due("45 a row", y.chain(120, 0, 4), WHOLE);
        due("45 no egg", y.chain(12, 1, 4), NONE);
        due("45 no yards", y.chain(12, 0, 0), NONE);
        due("45 no yards", y.chain(12, 0, 61), NONE);
        due("46 no egg", y.row(1, 4, 0), NONE);
        due("46 no egg", y.row(-1, 4, 0), NONE);
        due("46 no yards", y.row(0, 0, 0), NONE);
        due("46 no yards", y.row(0, 61, 0), NONE);
        due("46 no what", y.row(0, 4, 2), NONE);
        due("46 no what", y.row(0, 4, -1), NONE);
        due("45 no meadow", new EggThrow().chain(0, 0, 4), NONE);
        due("46 no meadow", new EggThrow().row(0, 4, 0), NONE);
        due("45 from END 0", meadow("mw1;p;p;e").chain(1, 0, 18), 666666666);
        due("46 six", meadow("p;p;p;p;p;p;e").row(0, 4, 0), 12345);
    }

    private static void counts() {
        EggThrow x = meadow("mw7d1s3f9;p;p;p;e;e", "y:1");
        tell(x, 2, "12");
        tell(x, 2, "13");
        x.witness(1, 2, false);
        x.measure(0, 400, 0, 5);
        x.measure(0, 400, 0, 5);
        x.measure(0, 400, 0, 5);
        x.game(1, 0, 1);
        feed(x, "abcd");
        int[] due = {3, 2, 1, 4, 7, 1, 3, 9, 0, 1, 1, 2, 3};
        for (int what = 0; what < due.length; what++) {
            due("53 count(" + what + ")", x.count(what), due[what]);
        }
        due("53 others", x.count(13), HIDDEN);
        due("53 others", x.count(-1), HIDDEN);
        due("53 others", x.count(2147483647), HIDDEN);
    }

    public static void main(String[] args) {
        newObject();
        tapeGrows();
        tapeEnds();
        meadowFaults();
        lawFaults();
        filmFaults();
        textsAreTaken();
        personsAndEggs();
        lawsHold();
        toldByHand();
        offs();
        forces();
        worths();
        goods();
        bests();
        courses();
        firsts();
        whoms();
        whiches();
        witnesses();
        armsAndLegs();
        bolds();
        duels();
        safesAndSpots();
        strides();
        ranks();
        winds();
        learns();
        films();
        flatTops();
        gamesByDraws();
        fetes();
        crowns();
        gamesPutBy();
        gamesRefused();
        cartons();
        spares();
        leasts();
        lofts();
        measures();
        rows();
        counts();
        if (wrong > 0) {
            System.exit(1);
        }
    }
}
