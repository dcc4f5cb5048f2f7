/** The boundaries of promises 1 to 5: a new object, and the tape with its texts. */
final class Edges01To05 {
    private static final int NONE = Edges.NONE;
    private static final int HIDDEN = Edges.HIDDEN;
    private static final int[] NO_SORT = {-1, -2, 3, 4, Edges.LOWEST, Edges.HIGHEST};
    private static final String MEADOW = "mw9d1s9f60;pl5a9r5b9;pl0a0r0b0;eb99c1;e";
    private static final String LAW = "y:!(d=1|b<2&[a+3]*4>w-5)?r/6+7890;y:12";
    /** Bytes that no text ever has. */
    private static final int[] STRANGE = {1, 9, 10, 31, '#', 'x', 'M', 127, 128, 160, 255};

    private Edges01To05() {
    }

    static void hold() {
        newObject();
        feedTakesTwenty();
        feedLeavesOutZeros();
        feedMoreThan160();
        endFirstBytes();
        endBehindIsGone();
        endRefused();
        faultNumbersOfClauses();
        faultItems();
        faultBoundsOfItems();
        faultDigits();
        faultBlanks();
        faultEndsTooEarly();
        faultStrangeBytes();
        faultLawClauses();
        faultLawConditions();
        faultLawNumbers();
        faultNested();
        faultNestedBesideOneAnother();
        faultFilms();
        faultNoSort();
        textEmptiesTheTape();
        textUsualItems();
        textLastItems();
        textAllOfAnotherIsGone();
        textSmallerBehindLarger();
        textNumbers();
        textRefused();
        textThereAreFour();
    }

    // ---- 1

    private static void newObject() {
        Edges.sentence(1, "No MEADOW.");
        EggThrow x = new EggThrow();
        for (int what = 0; what <= 12; what++) {
            Edges.due("count(" + what + ")", x.count(what), what == 8 ? NONE : 0);
        }
        Edges.Base made = EggThrow::new;
        Edges.refused(made, Edges.THROWN, y -> Edges.person(y, 0, 0));
        Edges.refused(made, 0, y -> Edges.bit(y.law(NONE)), y -> Edges.bit(y.law(0)), y -> Edges.bit(y.set(0, 1)),
                y -> Edges.bit(y.set(1, 1)), y -> Edges.bit(y.set(2, 1)), y -> Edges.bit(y.set(3, 1)),
                y -> Edges.bit(y.set(0, 0)));
        Edges.refused(made, HIDDEN, y -> y.off(0, 0, 0, 0, 0), y -> y.force(0, 0, 1, 0, 0), y -> y.best(1, 0, 1, 0),
                y -> y.strong(0, 0), y -> y.loft(1, 0, 1, 0, 0));
        Edges.refused(made, NONE, y -> y.egg(0, 0), y -> y.good(1, 0, 1, 5), y -> y.comes(1, 0, 0), y -> y.far(1, 0),
                y -> y.hope(1, 0), y -> y.first(1, 0, 0), y -> y.whom(0), y -> y.whom(1), y -> y.which(1, 0, 0),
                y -> y.witness(0, 0, true), y -> y.arms(1, 0, 1, 5, 0), y -> y.bold(1, 1, 0, 1, NONE),
                y -> y.duel(1, 1, 0, 0), y -> y.lot(1, 0), y -> y.safe(1, 0), y -> y.spots(1, 0, 1, 0),
                y -> y.legs(1, 0, 1, 5, 0), y -> y.stride(1, 0, 0), y -> y.rank(0, 0), y -> y.calm(1, 0, 0),
                y -> y.learn(1, 0, 0, 0), y -> y.film(0, 0), y -> y.raw(0, 0, 0), y -> y.like(0, 0));
        Edges.refused(made, NONE, y -> y.fete(10, 1, 0), y -> y.fete(0, 1, 0), y -> y.crown(10, 0), y -> y.crown(0, 0),
                y -> y.carton(1, 0, 1, 0), y -> y.spare(1, 0, 1), y -> y.least(1, 0, 1, 0), y -> y.gusty(1, 0, 0),
                y -> y.measure(0, 400, 0, 0), y -> y.held(), y -> y.chain(1, 0, 1), y -> y.chain(0, 0, 1),
                y -> y.row(0, 1, 0), y -> y.game(1, 0, 1), y -> y.played(0, 0), y -> y.champion(), y -> y.undo(),
                y -> y.image(), y -> y.back(), y -> y.text(0), y -> y.text(1), y -> y.text(2));
    }

    // ---- 2

    private static void feedTakesTwenty() {
        Edges.sentence(2, "Twenty bytes more come to the TAPE (of each number the highest first;");
        EggThrow x = new EggThrow();
        Edges.feed(x, "pl1a2r3b4;pl5;eb67c1");
        Edges.due("twenty bytes", x.count(3), 20);
        Edges.due("they are in order", x.text(0), 2);
        for (int what = 0; what < 4; what++) {
            Edges.due("of the first", x.person(0, what), what + 1);
        }
        Edges.due("the second", x.person(1, 0), 5);
        Edges.due("the egg", x.egg(0, 0), 67);
        Edges.due("the twentieth", x.egg(0, 1), 1);

        Edges.sentence(2, "how many it has");
        EggThrow y = new EggThrow();
        Edges.due("nothing", y.feed(0, 0, 0, 0, 0), 0);
        Edges.due("one", y.feed(0, 0, 0, 0, 'p'), 1);
        for (int i = 1; i <= 7; i++) {
            Edges.due("twenty more", y.feed(-1, -1, -1, -1, -1), 1 + 20 * i);
        }
    }

    /** One byte alone at each of the twenty places. */
    private static void feedLeavesOutZeros() {
        Edges.sentence(2, "bytes of 0 are left out");
        for (int place = 0; place < 20; place++) {
            int[] words = new int[5];
            words[place / 4] = 1 << 24 - 8 * (place % 4);
            EggThrow x = new EggThrow();
            Edges.due("at " + place, x.feed(words[0], words[1], words[2], words[3], words[4]), 1);
            words[place / 4] = 255 << 24 - 8 * (place % 4);
            Edges.due("255 at " + place, x.feed(words[0], words[1], words[2], words[3], words[4]), 2);
        }
        EggThrow x = new EggThrow();
        x.feed('p' << 24 | ';', 0, 'p' << 8, ';' << 16, 'e' << 24);
        Edges.due("what is left stands side by side", x.text(0), 2);
    }

    private static EggThrow filled(int bytes) {
        EggThrow x = new EggThrow();
        Edges.feed(x, "pa7;pb2l3;eb55c1" + " ".repeat(bytes - 16));
        return x;
    }

    private static void feedMoreThan160() {
        Edges.sentence(2, "NONE: more than 160.");
        Edges.due("as much as fits", filled(140).feed(-1, -1, -1, -1, -1), 160);
        Edges.due("the last one", filled(159).feed(0, 0, 0, 0, 1), 160);
        Edges.due("nothing more at 160", filled(160).feed(0, 0, 0, 0, 0), 160);
        Edges.due("zeros do not count", filled(158).feed(0x01000000, 0, 0, 0, 1), 160);
        Edges.refused(() -> filled(160), NONE, x -> x.feed(1, 0, 0, 0, 0), x -> x.feed(0, 0x100, 0, 0, 0),
                x -> x.feed(0, 0, 0x10000, 0, 0), x -> x.feed(0, 0, 0, 0x1000000, 0), x -> x.feed(0, 0, 0, 0, -1),
                x -> x.feed(-1, -1, -1, -1, -1));
        Edges.refused(() -> filled(159), NONE, x -> x.feed(0x100, 0, 0, 0, 1), x -> x.feed(0, 0, 0x3030, 0, 0));
        Edges.refused(() -> filled(141), NONE, x -> x.feed(-1, -1, -1, -1, -1));
        Edges.refused(Edges.FULL, NONE, x -> x.feed(0x20, 0, 0, 0, 0));
        EggThrow x = filled(141);
        x.feed(-1, -1, -1, -1, -1);
        Edges.due("behind the refused one", x.feed(-1, -1, -1, -1, -256), 160);
    }

    // ---- 3

    private static void endFirstBytes() {
        Edges.sentence(3, "The TAPE has its first n bytes alone.");
        EggThrow x = new EggThrow();
        Edges.due("none of none", x.end(0), true);
        Edges.feed(x, "p;p;eb99");
        Edges.due("all of them", x.end(8), true);
        Edges.due("eight", x.count(3), 8);
        Edges.due("one fewer", x.end(7), true);
        Edges.due("seven", x.count(3), 7);
        Edges.due("they do not come back", x.end(8), false);
        Edges.due("the digit behind is gone", x.text(0), 2);
        Edges.due("9, not 99", x.egg(0, 0), 9);
        Edges.feed(x, "y:12345");
        Edges.due("but for one", x.end(6), true);
        Edges.due("no fifth digit", x.fault(1), NONE);
        Edges.due("of one", x.end(1), true);
        Edges.feed(x, ":7");
        Edges.due("what comes stands right behind", x.fault(1), NONE);
        Edges.due("nothing", x.end(0), true);
        Edges.due("no bytes", x.count(3), 0);
        Edges.due("the longest", filled(160).end(160), true);
        Edges.feed(x, "y;78");
        x.end(4);
        Edges.tell(x, 2, "12345");
        Edges.due("a film of its own bytes", x.film(0, 1), 5);
    }

    /** Bytes behind the end, blanks and digits above all, must not be read on. */
    private static void endBehindIsGone() {
        Edges.sentence(3, "its first n bytes alone");
        String[] texts = {" m w 1 ; p l 2 ; p ; e b 12  ", "p;p;e   ;   ", " y : d > 12 ? 34 + [ r ] ; y : 5   ", " 1 2  3   "};
        for (String text : texts) {
            for (int n = text.length(); n >= 0; n--) {
                for (int sort = 0; sort < 3; sort++) {
                    EggThrow x = new EggThrow();
                    Edges.feed(x, text);
                    x.end(n);
                    Edges.due("sort " + sort + " of '" + text + "' cut to " + n, x.fault(sort),
                            Edges.fault(sort, text.substring(0, n)));
                }
            }
        }
    }

    private static void endRefused() {
        Edges.sentence(3, "False: n.");
        Edges.refused(Edges.RICH, 0, new int[] {-1, 17, 20, 160, 161, Edges.LOWEST, Edges.HIGHEST},
                (x, n) -> Edges.bit(x.end(n)));
        Edges.refused(Edges.FULL, 0, new int[] {-1, 161, Edges.LOWEST, Edges.HIGHEST}, (x, n) -> Edges.bit(x.end(n)));
        Edges.refused(EggThrow::new, 0, new int[] {-1, 1, 160}, (x, n) -> Edges.bit(x.end(n)));
        Edges.done(Edges.RICH, 0, new int[] {0, 1, 15, 16}, (x, n) -> Edges.bit(x.end(n)));
    }

    // ---- 4, a meadow

    private static void fault0(String text, int due) {
        Edges.due("a meadow of '" + text + "'", Edges.fault(0, text), due);
    }

    private static void faultNumbersOfClauses() {
        Edges.sentence(4, "m (the MEADOW itself; one at most)");
        fault0("p;p;e", NONE);
        fault0("m;p;p;e", NONE);
        Edges.sentence(4, "p (a PERSON; 2 .. 6)");
        fault0("p;e", 3);
        fault0("p;p;e", NONE);
        fault0("p;p;p;p;p;p;e", NONE);
        Edges.sentence(4, "with fewer than two PERSONS, without an EGG");
        fault0("e", 1);
        fault0("m;e;e;e;e;e;e", 13);
        fault0("m", 1);
        fault0("p;p;p;p;p;p", 11);
        fault0("p;m;p", 5);
        Edges.sentence(4, "e (an EGG; 1 .. 6), in any order");
        fault0("p;p", 3);
        fault0("e;p;p", NONE);
        fault0("p;e;m;p", NONE);
        fault0("e;e;e;e;e;e;p;p", NONE);
        fault0("e;p;e;p;e;p;e;p;e;p;e;p;m", NONE);
        fault0("m;" + Edges.repeated("p", 6, ";") + ";" + Edges.repeated("e", 6, ";"), NONE);
        Edges.sentence(4, "a second m, a seventh p or e, a seventh of ( [ ! at it");
        fault0("m;m;p;p;e", 2);
        fault0("m;p;p;e;m", 8);
        fault0("mw1;p;p;e; m", 11);
        fault0("p;p;p;p;p;p;p;e", 12);
        fault0("e;p;p;p;p;p;p; p", 15);
        fault0("e;e;e;e;e;e;e;p;p", 12);
        fault0("p;p;e;e;e;e;e;e;e", 16);
        fault0("m;" + Edges.repeated("p", 6, ";") + ";" + Edges.repeated("e", 6, ";") + ";p", 26);
        fault0("m;" + Edges.repeated("p", 6, ";") + ";" + Edges.repeated("e", 6, ";") + ";e", 26);
        fault0("m;" + Edges.repeated("p", 6, ";") + ";" + Edges.repeated("e", 6, ";") + ";m", 26);
        Edges.sentence(4, "CLAUSES with ; between");
        fault0("", 0);
        fault0(";", 0);
        fault0("p;;p;e", 2);
        fault0(";p;p;e", 0);
        fault0("p p;e", 2);
        fault0("p,p;e", 1);
        fault0("q;p;p;e", 0);
        fault0("p;p;e;q", 6);
        fault0("p;p;e:", 5);
    }

    private static void faultItems() {
        Edges.sentence(4, "then ITEMS, none or more: a letter, each once at most in a CLAUSE");
        String[] letters = {"wdsf", "larb", "bc"};
        String[] kinds = {"m", "p", "e"};
        for (int kind = 0; kind < 3; kind++) {
            for (char c = 'a'; c <= 'z'; c++) {
                boolean isItem = letters[kind].indexOf(c) >= 0;
                fault0(kinds[kind] + c + "1;", isItem ? 4 : 1);
                if (isItem) {
                    fault0(kinds[kind] + c + "1" + c + "1", 3);
                    fault0(kinds[kind] + c + "1 " + c, 4);
                }
            }
        }
        fault0("pl1a1r1b1;pb1r1a1l1;eb1c1;ec1b1;mf1s1d1w1", NONE);
        Edges.sentence(4, "a letter that was there");
        fault0("pl1a1r1b1l1;p;e", 9);
        fault0("pl1a1r1b1b1;p;e", 9);
        fault0("mw1d1s1f1w1", 9);
        fault0("eb1c1b1;p;p", 5);
        fault0("eb1c1c1;p;p", 5);
        fault0("pl1l9", 3);
        fault0("pl1;pl1;eb1;eb1", NONE);
    }

    private static void bounds(String head, int least, int most) {
        for (int v = 0; v <= 99; v++) {
            String number = String.valueOf(v);
            boolean isWithin = v >= least && v <= most;
            fault0(head + number + ";p;p;e", isWithin ? NONE : head.length() + number.length() - 1);
            if (v < 10) {
                fault0(head + "0" + number + ";p;p;e", isWithin ? NONE : head.length() + 1);
            }
        }
    }

    private static void faultBoundsOfItems() {
        Edges.sentence(4, "w WIND (0 .. 9;");
        bounds("mw", 0, 9);
        Edges.sentence(4, "d its END (0, 1; 0)");
        bounds("md", 0, 1);
        Edges.sentence(4, "s STEP (1 .. 9 YARDS; 2)");
        bounds("ms", 1, 9);
        Edges.sentence(4, "f FROM (1 .. 60 YARDS at first; 4)");
        bounds("mf", 1, 60);
        Edges.sentence(4, "l SLIP (0 .. 5; 1)");
        bounds("pl", 0, 5);
        Edges.sentence(4, "a ARM (0 .. 9; 3)");
        bounds("pa", 0, 9);
        Edges.sentence(4, "r RUN (0 .. 5; 1)");
        bounds("pr", 0, 5);
        Edges.sentence(4, "b the highest BOW (0 .. 9; 5)");
        bounds("pb", 0, 9);
        Edges.sentence(4, "b BEARS (1 .. 99; 30)");
        bounds("eb", 1, 99);
        Edges.sentence(4, "c whether it is CRACKED (0, 1; 0)");
        bounds("ec", 0, 1);
    }

    private static void faultDigits() {
        Edges.sentence(4, "a number (one or two digits)");
        fault0("mw;p;p;e", 2);
        fault0("mwd1;p;p;e", 2);
        fault0("mw", 2);
        fault0("eb", 2);
        fault0("mw-1;p;p;e", 2);
        Edges.sentence(4, "a number out of bounds is wrong at its last digit");
        fault0("pl6", 2);
        fault0("pl66", 3);
        fault0("pl6 6", 2);
        fault0("pl66 6", 3);
        fault0("eb0", 2);
        fault0("eb00", 3);
        fault0("eb00;x", 3);
        fault0("p;p;e;mf61", 9);
        Edges.sentence(4, "a third digit (whatever stands ahead of it; a fifth one in a LAW) itself");
        fault0("mw000;p;p;e", 4);
        fault0("pl999", 4);
        fault0("pl111", 4);
        fault0("eb100;p;p", 4);
        fault0("eb000;p;p", 4);
        fault0("pl990;p;e", 4);
        fault0("mf610;p;p;e", 4);
        fault0("mf600;p;p;e", 4);
        fault0("mf 6000;p;p;e", 5);
        Edges.due("a fifth", Edges.fault(1, "y:00000"), 6);
        Edges.due("a fifth", Edges.fault(1, "y:d>12345?1"), 8);
    }

    private static String spread(String text, String signs) {
        StringBuilder s = new StringBuilder(" ");
        for (int i = 0; i < text.length(); i++) {
            boolean isWithin = signs.indexOf(text.charAt(i)) >= 0 && i + 1 < text.length()
                    && signs.indexOf(text.charAt(i + 1)) >= 0;
            s.append(text.charAt(i)).append(isWithin ? "" : "  ");
        }
        return s.toString();
    }

    private static void faultBlanks() {
        Edges.sentence(4, "Blanks (32) may stand between all signs of both, not within numbers.");
        fault0(spread(MEADOW, "0123456789"), NONE);
        Edges.due("a law", Edges.fault(1, spread(LAW, "0123456789")), NONE);
        fault0("mf6 0;p;p;e", 4);
        fault0("eb9 9;p;p", 4);
        Edges.due("within a number", Edges.fault(1, "y:1 2"), 4);
        Edges.due("within a number", Edges.fault(1, "y:123 4"), 6);
        fault0(" ", 1);
        fault0(" ".repeat(160), 160);
        Edges.due("blanks alone", Edges.fault(1, " ".repeat(160)), 160);
        fault0("p;p;e" + " ".repeat(155), NONE);
        fault0(" ".repeat(155) + "p;p;e", NONE);
        Edges.due("a law ahead of blanks", Edges.fault(1, "y:1" + " ".repeat(157)), NONE);
        Edges.due("a law behind blanks", Edges.fault(1, " ".repeat(157) + "y:1"), NONE);
        EggThrow x = Edges.meadow(spread("mf12;pl2a4;pb7;eb81c1", "0123456789"));
        Edges.due("read through blanks", x.count(7), 12);
        Edges.due("read through blanks", x.person(1, 3), 7);
        Edges.due("read through blanks", x.egg(0, 0), 81);
        Edges.due("read through blanks", x.egg(0, 1), 1);
    }

    /** Behind what a text can end, told by its bytes: a clause's letter, or a digit. */
    private static void faultEndsTooEarly() {
        Edges.sentence(4, "the length, if it ends too early");
        int egg = MEADOW.indexOf('e');
        for (int n = 0; n <= MEADOW.length(); n++) {
            String part = MEADOW.substring(0, n);
            char last = n == 0 ? ';' : part.charAt(n - 1);
            boolean isDigit = last >= '0' && last <= '9';
            fault0(part, n > egg && (isDigit || last == 'e') ? NONE : n);
        }
        for (int n = 0; n <= LAW.length(); n++) {
            String part = LAW.substring(0, n);
            int when = LAW.indexOf('?');
            int second = LAW.indexOf(';');
            char last = n == 0 ? ';' : part.charAt(n - 1);
            boolean isAtom = last >= '0' && last <= '9' || last == 'r';
            boolean isWhole = isAtom && n > when + 1 && (n <= second || n > second + 3);
            Edges.due("a law of '" + part + "'", Edges.fault(1, part), isWhole ? NONE : n);
        }
        Edges.due("blanks behind it count", Edges.fault(0, "p;p;  "), 6);
        Edges.due("blanks behind it count", Edges.fault(1, "y:  "), 4);
    }

    private static void faultStrangeBytes() {
        Edges.sentence(4, "the first byte at which no such TEXT can go on");
        for (int strange : STRANGE) {
            for (int i = 0; i <= MEADOW.length(); i++) {
                fault0(MEADOW.substring(0, i) + (char) strange + MEADOW.substring(Math.min(i + 1, MEADOW.length())), i);
            }
            for (int i = 0; i <= LAW.length(); i++) {
                String text = LAW.substring(0, i) + (char) strange + LAW.substring(Math.min(i + 1, LAW.length()));
                Edges.due("a law of '" + text + "'", Edges.fault(1, text), i);
            }
        }
        fault0("px;p;q", 1);
        Edges.due("the first of two", Edges.fault(1, "y:x+x"), 2);
        fault0("p".repeat(160), 1);
        Edges.due("the 160th byte", Edges.fault(0, "p;p;e" + " ".repeat(154) + "x"), 159);
    }

    // ---- 4, a law

    private static void fault1(String text, int due) {
        Edges.due("a law of '" + text + "'", Edges.fault(1, text), due);
    }

    private static void faultLawClauses() {
        Edges.sentence(4, "CLAUSES with ; between, one at least: y, : , perhaps CONDITION ?, then SUM.");
        fault1("", 0);
        fault1(";", 0);
        fault1("y:1", NONE);
        fault1("y:1;", 4);
        fault1("y:1;;y:1", 4);
        fault1("y:1;y:2;y:3", NONE);
        fault1("1", 0);
        fault1(":1", 0);
        fault1("y1", 1);
        fault1("yy:1", 1);
        fault1("y::1", 2);
        fault1("y:?1", 2);
        fault1("y:1=1?2", NONE);
        fault1("y:1=1", 5);
        fault1("y:1=1?", 6);
        fault1("y:1=1;y:1", 5);
        fault1("y:1=1?2?3", 7);
        fault1("y:1=1?2=2", 7);
        fault1("y:1?2", 3);
        fault1("y:" + Edges.repeated("1", 79, "+"), NONE);
        fault1("y:" + Edges.repeated("1", 78, "+") + "+1+", 160);
        fault1(Edges.repeated("y:1", 40, ";"), NONE);
    }

    private static void faultLawConditions() {
        Edges.sentence(4, "(A CLAUSE that goes on with ! or ( behind its : has a CONDITION.)");
        fault1("y:(1)", 4);
        fault1("y:(d)*2", 4);
        fault1("y:(1=1)", 7);
        fault1("y:(1=1)+1", 7);
        fault1("y:!1", 4);
        fault1("y:!1=1", 6);
        fault1("y: (1=1)?1", NONE);
        fault1("y: !1=1?1", NONE);
        Edges.sentence(4, "UNIT: ! UNIT, ( CONDITION ), or SUM, one of = < >, SUM.");
        fault1("y:1=1&?1", 6);
        fault1("y:1=1|?1", 6);
        fault1("y:|1=1?1", 2);
        fault1("y:&1=1?1", 2);
        fault1("y:1==1?1", 4);
        fault1("y:1<>1?1", 4);
        fault1("y:1=1=1?1", 5);
        fault1("y:()?1", 3);
        fault1("y:(1=1?1", 6);
        fault1("y:1=1)?1", 5);
        fault1("y:1=(1)?1", 4);
        fault1("y:1=!1?1", 4);
        fault1("y:1=1!?1", 5);
        fault1("y:1=1?(1)", 6);
        fault1("y:1=1?!1", 6);
        fault1("y:1=1?1&1", 7);
        fault1("y:[1=1]?1", 4);
        fault1("y:[(1)]", 3);
        fault1("y:[!1]", 3);
        fault1("y:(1=1)(1=1)?1", 7);
        fault1("y:1=1&2<3|!4>5&(6=7|8=9)?1", NONE);
    }

    private static void faultLawNumbers() {
        Edges.sentence(4, "ATOM: a number (1 to 4 digits), a letter (d b a w r), [ SUM ].");
        fault1("y:0", NONE);
        fault1("y:9999", NONE);
        fault1("y:0000", NONE);
        fault1("y:10000", 6);
        fault1("y:1+12345", 8);
        fault1("y:99999999", 6);
        for (char c = 'a'; c <= 'z'; c++) {
            fault1("y:" + c, "dbawr".indexOf(c) >= 0 ? NONE : 2);
        }
        fault1("y:dd", 3);
        fault1("y:1d", 3);
        fault1("y:d1", 3);
        fault1("y:[]", 3);
        fault1("y:[1", 4);
        fault1("y:1]", 3);
        fault1("y:[1)", 4);
        fault1("y:[1]1", 5);
        Edges.sentence(4, "SUM: TERMS with + or - between; TERM: ATOMS with * or / between");
        fault1("y:+1", 2);
        fault1("y:-1", 2);
        fault1("y:*1", 2);
        fault1("y:/1", 2);
        fault1("y:1+", 4);
        fault1("y:1--1", 4);
        fault1("y:1*/1", 4);
        fault1("y:1+*1", 4);
        fault1("y:1%1", 3);
        fault1("y:1+1-1*1/1", NONE);
    }

    /** A law whose innermost atom stands within these openers. */
    private static String within(String openers, String innermost) {
        StringBuilder s = new StringBuilder("y:").append(openers).append(innermost);
        StringBuilder closers = new StringBuilder();
        boolean isClosed = false;
        for (int i = openers.length() - 1; i >= 0; i--) {
            char c = openers.charAt(i);
            if (c == '[') {
                closers.append(']');
            } else {
                closers.append(isClosed ? "" : "=1").append(c == '(' ? ")" : "");
                isClosed = true;
            }
        }
        return s.append(closers).append(isClosed ? "?1" : "").toString();
    }

    /** Behind [ no other opener may stand; ahead of it ( and ! in every order. */
    private static void faultNested() {
        Edges.sentence(4, "At most six of ( [ ! within one another.");
        for (int squares = 0; squares <= 7; squares++) {
            int others = 7 - squares;
            for (int order = 0; order < 1 << others; order++) {
                StringBuilder openers = new StringBuilder();
                for (int i = 0; i < others; i++) {
                    openers.append((order >> i & 1) == 0 ? '(' : '!');
                }
                openers.append("[".repeat(squares));
                fault1(within(openers.toString(), "1"), 8);
                fault1(within(openers.substring(1), "1"), NONE);
                fault1(within(openers.substring(0, 6), "1"), NONE);
            }
        }
        fault1("y:[ [ [ [ [ [ [1", 14);
        fault1("y:!!!!!!d=[1]?1", 10);
        fault1("y:!!!!!d=[1]?1", NONE);
        fault1("y:((((((d=[1", 10);
        fault1("y:((((((d=1&!d=1", 12);
        fault1("y:((((((d=1|(d=1", 12);
        fault1("y:d=1?[[[[[[[1", 12);
        fault1("y:d=[[[[[[[1", 10);
    }

    private static void faultNestedBesideOneAnother() {
        Edges.sentence(4, "within one another");
        fault1("y:" + Edges.repeated("[1]", 9, "+"), NONE);
        fault1("y:" + Edges.repeated("!d=1", 9, "&") + "?1", NONE);
        fault1("y:" + Edges.repeated("(d=1)", 9, "|") + "?1", NONE);
        fault1("y:[[[[[[1]]]]]]*[[[[[[1]]]]]]", NONE);
        fault1("y:[[[[[[1]]]]]]*[[[[[[[1]]]]]]]", 22);
        fault1("y:!!!!!!d=1&!!!!!!d=1?1", NONE);
        fault1("y:!!!!!!d=1&!!!!!!!d=1?1", 18);
        fault1("y:((((((d=1))))))|((((((d=1))))))?1", NONE);
        fault1("y:[[[[[[1]]]]]]=[[[[[[1]]]]]]?[[[[[[1]]]]]]", NONE);
        fault1("y:[[[[[[1]]]]]];y:[[[[[[1]]]]]]", NONE);
        fault1("y:!!!!!!d=1?[[[[[[1]]]]]]", NONE);
        fault1("y:!!!!!(!d=1)?1", 8);
    }

    // ---- 4, a film, and what is no sort

    private static void fault2(String text, int due) {
        Edges.due("a film of '" + text + "'", Edges.fault(2, text), due);
    }

    private static void faultFilms() {
        Edges.sentence(4, "digits, 1 to 24");
        fault2("0", NONE);
        fault2("9", NONE);
        for (int many = 1; many <= 24; many++) {
            fault2("7".repeat(many), NONE);
        }
        Edges.sentence(4, "blanks may stand between; any other byte is wrong at it");
        fault2(" 1  2 ", NONE);
        fault2(Edges.repeated("5", 24, "     "), NONE);
        fault2(" ".repeat(159) + "1", NONE);
        fault2("1" + " ".repeat(159), NONE);
        for (int other = 1; other < 256; other++) {
            if (other != ' ' && (other < '0' || other > '9')) {
                fault2("12" + (char) other + "3", 2);
                fault2((char) other + "3", 0);
                fault2("7".repeat(24) + (char) other, 24);
            }
        }
        Edges.sentence(4, "a 25th digit, too; none: the length");
        fault2("7".repeat(25), 24);
        fault2("7".repeat(24) + " 7", 25);
        fault2("7".repeat(160), 24);
        fault2("", 0);
        fault2(" ", 1);
        fault2(" ".repeat(160), 160);
    }

    private static void faultNoSort() {
        Edges.sentence(4, "-2: no such sort.");
        Edges.refused(Edges.RICH, -2, NO_SORT, (x, sort) -> x.fault(sort));
        Edges.refused(EggThrow::new, -2, NO_SORT, (x, sort) -> x.fault(sort));
        Edges.sentence(4, "NONE: none.");
        Edges.taken(Edges.RICH, -2, new int[] {0, 1, 2}, (x, sort) -> x.fault(sort));
        Edges.due("the tape of it has none", Edges.RICH.made().fault(0), NONE);
        Edges.due("as a law", Edges.RICH.made().fault(1), 0);
        Edges.due("as a film", Edges.RICH.made().fault(2), 0);
        Edges.due("four laws, and a fifth has no fault", withTape(Edges.FULL, "y:1").fault(1), NONE);
        Edges.due("four films, and a fifth has no fault", withTape(Edges.FULL, "12").fault(2), NONE);
    }

    private static EggThrow withTape(Edges.Base base, String text) {
        EggThrow x = base.made();
        x.end(0);
        Edges.feed(x, text);
        return x;
    }

    // ---- 5

    private static void textEmptiesTheTape() {
        Edges.sentence(5, "The TAPE (empty then)");
        String[] texts = {"p;p;e", "y:1", "12"};
        for (int sort = 0; sort < 3; sort++) {
            EggThrow x = withTape(Edges.RICH, texts[sort]);
            Edges.due("it is taken", x.text(sort) >= 0, true);
            Edges.due("the tape", x.count(3), 0);
            Edges.due("there is none to take", x.text(sort), NONE);
            Edges.due("it has room for all", x.feed(-1, -1, -1, -1, -1), 20);
        }
        EggThrow x = withTape(EggThrow::new, "12345");
        x.text(2);
        Edges.tell(x, 2, "6");
        Edges.due("nothing of the one ahead is left", x.film(1, 1), 1);
    }

    private static void textUsualItems() {
        Edges.sentence(5, "ITEMS, none or more");
        String[] texts = {"p;p;e", "m;p;p;e"};
        for (String text : texts) {
            // another meadow with everything told stands ahead: nothing of it may be left
            EggThrow x = Edges.meadow("mw9d1s9f60;pl5a9r5b9;pl5a9r5b9;eb99c1");
            Edges.tell(x, 0, text);
            int[] told = {0, 0, 2, 4};
            int[] person = {1, 3, 1, 5};
            for (int i = 0; i < 4; i++) {
                Edges.due("of the meadow", x.count(4 + i), told[i]);
                Edges.due("of a person", x.person(0, i), person[i]);
                Edges.due("of the last person", x.person(1, i), person[i]);
            }
            Edges.due("bears", x.egg(0, 0), 30);
            Edges.due("cracked", x.egg(0, 1), 0);
        }
        EggThrow x = Edges.meadow("pl4;pa0;pr5;pb9;eb2;ec1;mf9");
        int[] due = {4, 3, 1, 5, 1, 0, 1, 5, 1, 3, 5, 5, 1, 3, 1, 9};
        for (int i = 0; i < due.length; i++) {
            Edges.due("one item alone", x.person(i / 4, i % 4), due[i]);
        }
        Edges.due("one item alone", x.egg(0, 1), 0);
        Edges.due("one item alone", x.egg(1, 0), 30);
        Edges.due("one item alone", x.count(6), 2);
    }

    private static void textLastItems() {
        Edges.sentence(5, "The TAPE (empty then) is the MEADOW");
        EggThrow x = Edges.meadow(MEADOW);
        int[] due = {9, 1, 9, 60, 5, 9, 5, 9, 0, 0, 0, 0, 99, 1};
        for (int i = 0; i < 4; i++) {
            Edges.due("the most", x.count(4 + i), due[i]);
            Edges.due("the most", x.person(0, i), due[4 + i]);
            Edges.due("the least", x.person(1, i), due[8 + i]);
        }
        Edges.due("the most", x.egg(0, 0), 99);
        Edges.due("the most", x.egg(0, 1), 1);
        EggThrow y = Edges.meadow("mw00d00s01f01;pl05a09r05b09;pl00a00r00b00;eb01c01");
        int[] least = {0, 0, 1, 1};
        for (int i = 0; i < 4; i++) {
            Edges.due("two digits", y.count(4 + i), least[i]);
            Edges.due("two digits", y.person(0, i), due[4 + i]);
            Edges.due("two digits", y.person(1, i), 0);
        }
        Edges.due("two digits", y.egg(0, 0), 1);
        Edges.due("two digits", y.egg(0, 1), 1);
        EggThrow six = Edges.meadow("pl5;pl4;pl3;pl2;pl1;pl0;eb1;eb2;eb3;eb4;eb5;eb6c1");
        for (int i = 0; i < 6; i++) {
            Edges.due("persons in their order", six.person(i, 0), 5 - i);
            Edges.due("eggs in their order", six.egg(i, 0), i + 1);
        }
        Edges.due("the last egg's last item", six.egg(5, 1), 1);
        Edges.sentence(5, "how many PERSONS");
        Edges.due("two", Edges.tell(x, 0, "p;p;e"), 2);
        Edges.due("five", Edges.tell(x, 0, "p;p;p;p;e;p"), 5);
        Edges.due("six", Edges.tell(x, 0, "p;p;p;p;p;p;e"), 6);
        Edges.due("two again", Edges.tell(x, 0, "p;p;e"), 2);
        Edges.due("no third", Edges.person(x, 2, 0), Edges.THROWN);
    }

    private static void textAllOfAnotherIsGone() {
        Edges.sentence(5, "all that was of another one is gone but LAWS, FILMS, none holds");
        Edges.Base[] bases = {Edges.RICH, Edges.FULL};
        for (Edges.Base base : bases) {
            EggThrow x = base.made();
            int laws = x.count(2);
            int films = x.count(11);
            Edges.tell(x, 0, "p;p;e");
            int[] due = {2, 1, laws, 0, 0, 0, 2, 4, NONE, 0, 0, films, 0};
            for (int what = 0; what < due.length; what++) {
                Edges.due("count(" + what + ")", x.count(what), due[what]);
            }
            Edges.due("no game", x.played(0, 0), NONE);
            Edges.due("no champion", x.champion(), NONE);
            Edges.due("none to undo", x.undo(), NONE);
            Edges.due("no image", x.back(), NONE);
            Edges.due("nothing witnessed", x.strong(0, 0), 99);
            Edges.due("nothing measured", x.held(), 16 + (1 << laws) - 1);
            Edges.due("no law holds", x.force(0, 0, 4, 1, 0), 2);
            Edges.due("nor is a best by it", x.best(1, 0, 18, 2), 1);
            Edges.due("the laws are there", x.law(laws - 1), true);
            Edges.due("the films are there", x.film(films - 1, 1) > 0, true);
            Edges.due("there is room again", x.game(1, 0, 1) >= 0, true);
            Edges.due("there is room again", x.witness(0, 0, true), 1);
            Edges.due("there is room again", x.measure(0, 400, 0, 5), 1);
        }
        EggThrow same = Edges.meadow("mw1;p;p;e");
        same.set(0, 7);
        same.game(1, 0, 1);
        same.image();
        Edges.due("the same text again", Edges.tell(same, 0, "mw1;p;p;e"), 2);
        Edges.due("is another one", same.count(4), 1);
        Edges.due("is another one", same.count(10), 0);
        Edges.due("is another one", same.back(), NONE);
    }

    /** A small meadow behind one with as much as fits: nothing may reach beyond what it has. */
    private static void textSmallerBehindLarger() {
        Edges.sentence(5, "all that was of another one is gone");
        EggThrow x = Edges.meadow("mf60;pa9b9;pa9b9;pa9b9;pa9b9;pa9b9;pa9b9;eb50;eb99;eb98;eb97;eb96;eb99", "y:50");
        x.whom(0);
        x.row(1, 60, 0);
        x.carton(1, 0, 1, 0);
        x.rank(5, 14);
        x.fete(543210, 1, 0);
        x.crown(543210, 0);
        x.duel(1, 1, 11, 0);
        x.learn(45, 50, 1, 1);
        Edges.tell(x, 0, "mf60;p;p;e");
        x.law(0);
        Edges.due("which", x.which(1, 0, 0), 0);
        Edges.due("which", x.which(1, 0, 1), 0);
        Edges.due("lot", x.lot(1, 0), 0);
        Edges.due("spare", x.spare(1, 0, 60), NONE);
        Edges.due("carton", x.carton(1, 0, 1, 0), 0);
        Edges.due("carton", x.carton(1, 0, 1, 1), 0);
        Edges.due("whom", x.whom(0), 10);
        Edges.due("whom", x.whom(1), 0);
        Edges.due("rank", x.rank(0, 0), 1);
        Edges.due("no second rank", x.rank(0, 1), NONE);
        Edges.due("row", x.row(0, 60, 0), 1);
        Edges.due("row", x.row(0, 60, 1), 0);
        Edges.due("fete", x.fete(10, 1, 0), 1);
        Edges.due("crown", x.crown(10, 0), Edges.WHOLE);
        Edges.due("no such egg", x.egg(1, 0), NONE);
        Edges.due("no such person", Edges.person(x, 2, 0), Edges.THROWN);
        EggThrow y = Edges.meadow("p;p;p;p;p;p;e");
        y.crown(543210, 2);
        Edges.tell(y, 0, "p;p;p;p;e");
        Edges.due("a lower one of the pairs ahead", y.crown(3210, 2), NONE);
        Edges.due("whom of four", y.whom(0), 1032);
        Edges.due("row of four", y.row(0, 4, 0), 123);
    }

    private static void textNumbers() {
        Edges.sentence(5, "a LAW, a FILM: its number");
        EggThrow x = new EggThrow();
        for (int i = 0; i < 4; i++) {
            Edges.due("a law", Edges.tell(x, 1, "y:" + (10 + i)), i);
            Edges.due("a film", Edges.tell(x, 2, "1".repeat(i + 1)), i);
            Edges.due("laws", x.count(2), i + 1);
            Edges.due("films", x.count(11), i + 1);
            Edges.tell(x, 0, "p;p;e");
        }
        for (int i = 0; i < 4; i++) {
            x.law(i);
            Edges.due("the law of this number", x.force(0, 0, 1, 0, 0), 10 + i);
            Edges.due("the film of this number", x.film(i, 1), i + 1);
        }
        EggThrow y = Edges.meadow("p;p;e", "y:7");
        Edges.tell(y, 1, "y:8");
        Edges.due("a later law does not hold of itself", y.count(8), 0);
        Edges.due("a later law does not hold of itself", y.force(0, 0, 1, 0, 0), 7);
    }

    private static void textRefused() {
        Edges.sentence(5, "NONE: a FAULT");
        String[] faulty = {"", "p;p", "p;p;e;", "y:1+", "x", "1".repeat(25)};
        for (String text : faulty) {
            for (int sort = 0; sort < 3; sort++) {
                int of = sort;
                Edges.refused(() -> withTape(Edges.RICH, text), NONE, x -> x.text(of));
                Edges.refused(() -> withTape(EggThrow::new, text), NONE, x -> x.text(of));
            }
        }
        Edges.refused(() -> withTape(Edges.RICH, "p;p;e"), NONE, x -> x.text(1), x -> x.text(2));
        Edges.refused(() -> withTape(Edges.RICH, "y:1"), NONE, x -> x.text(0), x -> x.text(2));
        Edges.refused(() -> withTape(Edges.RICH, "12"), NONE, x -> x.text(0), x -> x.text(1));
        Edges.sentence(5, "no such sort");
        String[] fine = {"p;p;e", "y:1", "12"};
        for (String text : fine) {
            Edges.refused(() -> withTape(Edges.RICH, text), NONE, NO_SORT, (x, sort) -> x.text(sort));
        }
    }

    private static void textThereAreFour() {
        Edges.sentence(5, "there are four");
        Edges.refused(() -> withTape(Edges.FULL, "y:1"), NONE, x -> x.text(1));
        Edges.refused(() -> withTape(Edges.FULL, "12"), NONE, x -> x.text(2));
        Edges.sentence(5, "LAWS (4 at most)");
        EggThrow laws = new EggThrow();
        for (int i = 0; i < 4; i++) {
            Edges.due("up to the fourth", Edges.tell(laws, 1, "y:1"), i);
        }
        Edges.due("no fifth law", Edges.tell(laws, 1, "y:1"), NONE);
        Edges.due("its tape stays", laws.count(3), 3);
        Edges.due("a film all the same", Edges.tell(laws, 2, "1"), 0);
        for (int i = 0; i < 6; i++) {
            Edges.due("meadows are not counted", Edges.tell(laws, 0, "p;p;e"), 2);
        }
        Edges.due("four still", Edges.tell(laws, 1, "y:1"), NONE);
        Edges.due("four still", laws.count(2), 4);
        Edges.sentence(5, "FILMS (4 at most)");
        EggThrow films = new EggThrow();
        for (int i = 0; i < 4; i++) {
            Edges.due("up to the fourth", Edges.tell(films, 2, "1"), i);
        }
        Edges.due("no fifth film", Edges.tell(films, 2, "1"), NONE);
        Edges.due("its tape stays", films.count(3), 1);
        Edges.due("a law all the same", Edges.tell(films, 1, "y:1"), 0);
        Edges.due("a meadow all the same", Edges.tell(films, 0, "p;p;e"), 2);
        Edges.due("four still", Edges.tell(films, 2, "1"), NONE);
        Edges.due("four still", films.count(11), 4);
    }
}
