import java.io.IOException;
import java.nio.file.Files;
import java.nio.file.Path;
import java.util.ArrayList;
import java.util.List;
import java.util.NoSuchElementException;
import java.util.regex.Matcher;
import java.util.regex.Pattern;

/**
 * What the tests of boundaries share. Each test names its promise and quotes the sentence whose
 * boundary it holds (sentence); what is refused is held against a twin that was never asked, so
 * that "changes nothing" is looked at behind every refused call.
 */
final class Edges {
    static final int NONE = -1;
    static final int HIDDEN = -1000000;
    static final int WHOLE = 1000000000;
    static final int LOWEST = Integer.MIN_VALUE;
    static final int HIGHEST = Integer.MAX_VALUE;
    /** Stands for a NoSuchElementException. */
    static final long THROWN = Long.MIN_VALUE;

    /* In the meadow of RICH: four persons, three eggs. */
    static final int[] NO_PERSON = {-1, LOWEST, 4, 5, 6, 10, HIGHEST};
    static final int[] NO_TWO = {-1, -10, -12, LOWEST, 4, 14, 24, 40, 41, 9, 90, 100, 101, 110, 1001, HIGHEST};
    static final int[] ALIKE = {0, 11, 22, 33};
    static final int[] LAST_TWO = {1, 10, 3, 30, 23, 32};
    static final int[] NO_EGG = {-1, LOWEST, 3, 6, 10, HIGHEST};
    static final int[] LAST_EGG = {0, 1, 2};
    static final int[] NO_EGG_END = {-1, -10, -11, LOWEST, 2, 9, 12, 22, 29, 30, 31, 60, 100, 101, HIGHEST};
    static final int[] LAST_EGG_END = {0, 1, 10, 11, 20, 21};
    static final int[] NO_TWO_EGGS = {-1, -10, LOWEST, 3, 9, 23, 30, 31, 100, 101, HIGHEST};
    static final int[] LAST_TWO_EGGS = {0, 2, 20, 22};
    static final int[] NO_END = {-1, LOWEST, 2, 10, HIGHEST};
    static final int[] BOTH_ENDS = {0, 1};
    static final int[] NO_YARDS = {0, -1, LOWEST, 61, 100, HIGHEST};
    static final int[] LAST_YARDS = {1, 60};
    static final int[] NO_WHAT = {-1, -2, LOWEST, 2, 3, HIGHEST};
    static final int[] BOTH_WHATS = {0, 1};

    /** Something asked of an object; a boolean counts 1 or 0. */
    interface Call {
        long on(EggThrow x);
    }

    /** Something asked with one number that goes through its boundaries. */
    interface NumberCall {
        long on(EggThrow x, int number);
    }

    /** Makes an object always in the same state. */
    interface Base {
        EggThrow made();
    }

    private static int promise = 0;
    private static String quote = "";
    private static int held = 1;
    private static int wrong = 0;
    private static final List<String> quotes = new ArrayList<>();

    private Edges() {
    }

    // ---- sentences

    /** What is held from here on is this promise's, by this sentence. */
    static void sentence(int ofPromise, String words) {
        noteUnheld();
        promise = ofPromise;
        quote = words;
        held = 0;
        quotes.add(ofPromise + " " + words);
    }

    private static void noteUnheld() {
        if (held == 0) {
            fail("nothing was held");
        }
    }

    private static void fail(String what) {
        wrong++;
        if (wrong <= 60) {
            System.out.println("Promise " + promise + ", '" + quote + "': " + what);
        }
    }

    static void due(String what, long got, long want) {
        held++;
        if (got != want) {
            fail(what + " answered " + got + ", due is " + want);
        }
    }

    static void due(String what, boolean got, boolean want) {
        due(what, got ? 1 : 0, want ? 1 : 0);
    }

    /** Every quote stands in the document, and every cause of a refusal that it tells is quoted. */
    static int finish(String document) {
        noteUnheld();
        Path path = document == null ? null : Path.of(document);
        if (path != null && Files.isReadable(path)) {
            try {
                compareWith(Files.readString(path).replaceAll("\\s+", " "));
            } catch (IOException e) {
                fail(e.toString());
            }
        }
        return wrong;
    }

    private static void compareWith(String text) {
        int terms = text.indexOf("## Terms");
        int first = text.indexOf("## Promise 1:");
        String shared = terms < 0 || first < terms ? text : text.substring(terms, first);
        for (int i = 1; i <= 53; i++) {
            String own = section(text, i);
            promise = i;
            for (String named : quotes) {
                String words = named.substring(named.indexOf(' ') + 1);
                if (named.startsWith(i + " ") && !own.contains(words) && !shared.contains(words)) {
                    quote = words;
                    fail("does not stand in the document");
                }
            }
            quote = "";
            compareCauses(own, i);
        }
    }

    private static String section(String text, int number) {
        int from = text.indexOf("## Promise " + number + ":");
        int to = text.indexOf("## ", from + 3);
        return from < 0 ? "" : text.substring(from, to < 0 ? text.length() : to);
    }

    private static void compareCauses(String own, int number) {
        int found = 0;
        Matcher causes = Pattern.compile("(?:NONE|HIDDEN|False|NoSuchElementException|-2): ([^.)]*(?: \\.\\. [^.)]*)*)")
                .matcher(own);
        while (causes.find()) {
            for (String cause : causes.group(1).split(", ")) {
                String words = cause.replaceAll(" \\(.*", "");
                found++;
                if (!isQuoted(number, words)) {
                    fail("no test quotes its '" + words + "'");
                }
            }
        }
        if (found == 0 && !isQuoted(number, "")) {
            fail("no test quotes it");
        }
    }

    private static boolean isQuoted(int number, String words) {
        for (String named : quotes) {
            if (named.startsWith(number + " ") && named.contains(words)) {
                return true;
            }
        }
        return false;
    }

    // ---- texts on the tape

    /** Puts a text on the tape, behind what is there. */
    static void feed(EggThrow x, String text) {
        for (int i = 0; i < text.length(); i += 20) {
            int[] words = new int[5];
            for (int j = 0; j < 20 && i + j < text.length(); j++) {
                words[j / 4] |= text.charAt(i + j) << 24 - 8 * (j % 4);
            }
            x.feed(words[0], words[1], words[2], words[3], words[4]);
        }
    }

    static int tell(EggThrow x, int sort, String text) {
        x.end(0);
        feed(x, text);
        return x.text(sort);
    }

    static int fault(int sort, String text) {
        EggThrow x = new EggThrow();
        feed(x, text);
        return x.fault(sort);
    }

    static EggThrow meadow(String text) {
        EggThrow x = new EggThrow();
        if (tell(x, 0, text) < 2) {
            fail("'" + text + "' is no meadow");
        }
        return x;
    }

    /** A meadow in which a law holds. */
    static EggThrow meadow(String text, String law) {
        EggThrow x = meadow(text);
        if (tell(x, 1, law) != 0 || !x.law(0)) {
            fail("'" + law + "' is no law");
        }
        return x;
    }

    static String repeated(String part, int many, String between) {
        StringBuilder s = new StringBuilder();
        for (int i = 0; i < many; i++) {
            s.append(i > 0 ? between : "").append(part);
        }
        return s.toString();
    }

    static long person(EggThrow x, int person, int what) {
        try {
            return x.person(person, what);
        } catch (NoSuchElementException e) {
            return THROWN;
        }
    }

    static long bit(boolean answer) {
        return answer ? 1 : 0;
    }

    // ---- states that refuse

    /** Without a meadow, but with a tape, a law and a film. */
    static final Base BARE = () -> {
        EggThrow x = new EggThrow();
        tell(x, 1, "y:d*2");
        tell(x, 2, "1213");
        feed(x, "pa7;pb2l3;eb55c1");
        return x;
    };

    /** Something of everything, and room for more of everything. */
    static final Base RICH = () -> {
        EggThrow x = new EggThrow();
        tell(x, 1, "y:d*2+b-a");
        tell(x, 1, "y:r>0?d+r;y:d-w");
        tell(x, 2, "1213");
        tell(x, 2, "33 2245");
        tell(x, 0, "mw3d1s5f6;pl2a4r3b7;pl0a9r1;p;p;eb44;eb81c1;e");
        x.law(1);
        x.witness(0, 20, true);
        x.witness(1, 33, false);
        x.measure(2, 1231, -4, 17);
        x.game(1, 0, 5);
        x.game(32, 21, 6);
        x.image();
        x.set(0, 2);
        x.set(2, 4);
        x.game(10, 11, 7);
        feed(x, "pa7;pb2l3;eb55c1");
        return x;
    };

    /** As much of everything as fits; six persons, six eggs. */
    static final Base FULL = () -> {
        EggThrow x = meadow("mw1s9;p;p;p;p;p;p;e;e;e;e;e;eb20");
        for (int i = 0; i < 4; i++) {
            tell(x, 1, "y:d+" + i);
            tell(x, 2, "12" + i);
        }
        for (int i = 0; i < 20; i++) {
            x.witness(i % 6, i, true);
            x.measure(i % 6, 400 + i % 2, 0, 5);
        }
        for (int i = 0; i < 40; i++) {
            x.game(1 + i % 5, 10 * (i % 6), i);
        }
        x.image();
        feed(x, "pa7;pb2l3;eb55c1" + " ".repeat(144));
        return x;
    };

    /** Every throw is caught; as many persons and eggs as in RICH. */
    static final Base EASY = () -> meadow("p;p;p;p;e;e;e", "y:0");

    /** Three persons: an odd number of them. */
    static final Base ODD = () -> meadow("mw2;p;pl2;pa6;e;eb50");

    static Base of(String meadow) {
        return () -> meadow(meadow);
    }

    static Base of(String meadow, String law) {
        return () -> meadow(meadow, law);
    }

    // ---- what is refused, taken, asked

    static void refused(Base base, long answer, Call... calls) {
        String untouched = probe(base.made());
        for (int i = 0; i < calls.length; i++) {
            EggThrow x = base.made();
            due("refused call " + i, calls[i].on(x), answer);
            dueSame("refused call " + i, probe(x), untouched);
        }
    }

    static void refused(Base base, long answer, int[] numbers, NumberCall call) {
        String untouched = probe(base.made());
        for (int number : numbers) {
            EggThrow x = base.made();
            due("with " + number + " it", call.on(x, number), answer);
            dueSame("refused with " + number, probe(x), untouched);
        }
    }

    /** A question that is answered: not with what refuses it, and it changes nothing either. */
    static void taken(Base base, long refusal, int[] numbers, NumberCall call) {
        String untouched = probe(base.made());
        for (int number : numbers) {
            EggThrow x = base.made();
            long answer = call.on(x, number);
            due("with " + number + " it is refused: it", answer == refusal, false);
            dueSame("asked with " + number, probe(x), untouched);
        }
    }

    /** Something that is done, and so may change the object. */
    static void done(Base base, long refusal, int[] numbers, NumberCall call) {
        for (int number : numbers) {
            due("with " + number + " it is refused: it", call.on(base.made(), number) == refusal, false);
        }
    }

    // ---- codes that many promises share: refused where all is caught too, so that no answer
    // hides a refusal that is missing

    static void noSuchTwo(long refusal, NumberCall call) {
        refused(RICH, refusal, NO_TWO, call);
        refused(EASY, refusal, NO_TWO, call);
        refused(BARE, refusal, LAST_TWO, call);
        taken(EASY, refusal, LAST_TWO, call);
        refused(of("p;p;e"), refusal, new int[] {2, 12, 20, 21}, call);
        taken(of("p;p;p;p;p;p;e", "y:0"), refusal, new int[] {5, 45, 50, 54}, call);
        refused(of("p;p;p;p;p;p;e", "y:0"), refusal, new int[] {6, 56, 60, 65}, call);
    }

    static void alike(long refusal, NumberCall call) {
        refused(RICH, refusal, ALIKE, call);
        refused(EASY, refusal, ALIKE, call);
        refused(FULL, refusal, new int[] {44, 55}, call);
    }

    static void noSuchEggEnd(long refusal, NumberCall call) {
        refused(RICH, refusal, NO_EGG_END, call);
        refused(EASY, refusal, NO_EGG_END, call);
        taken(EASY, refusal, LAST_EGG_END, call);
        refused(of("p;p;e"), refusal, new int[] {2, 10, 11}, call);
        taken(of("p;p;e;e;e;e;e;e", "y:0"), refusal, new int[] {50, 51}, call);
        refused(of("p;p;e;e;e;e;e;e", "y:0"), refusal, new int[] {52, 60, 61}, call);
    }

    static void noSuchEgg(long refusal, NumberCall call) {
        refused(RICH, refusal, NO_EGG, call);
        refused(EASY, refusal, NO_EGG, call);
        refused(BARE, refusal, new int[] {0, 1}, call);
        taken(EASY, refusal, LAST_EGG, call);
        refused(of("p;p;e"), refusal, new int[] {1, 2}, call);
        taken(of("p;p;e;e;e;e;e;e", "y:0"), refusal, new int[] {5}, call);
        refused(of("p;p;e;e;e;e;e;e", "y:0"), refusal, new int[] {6}, call);
    }

    static void noSuchEnd(long refusal, NumberCall call) {
        refused(RICH, refusal, NO_END, call);
        refused(EASY, refusal, NO_END, call);
        taken(EASY, refusal, BOTH_ENDS, call);
    }

    static void noSuchYards(long refusal, NumberCall call) {
        refused(RICH, refusal, NO_YARDS, call);
        refused(EASY, refusal, NO_YARDS, call);
        taken(EASY, refusal, LAST_YARDS, call);
    }

    /** What is 0 or 1. */
    static void noSuchWhat(long refusal, NumberCall call) {
        refused(RICH, refusal, NO_WHAT, call);
        refused(EASY, refusal, NO_WHAT, call);
        taken(EASY, refusal, BOTH_WHATS, call);
    }

    private static void dueSame(String what, String got, String want) {
        held++;
        if (!got.equals(want)) {
            fail(what + " changed the object:\n  " + got + "\n  " + want);
        }
    }

    /**
     * All that can be seen of an object, the tape and the image too; it is spent by this. With the
     * calls that made it an object of FULL stays within 512.
     */
    static String probe(EggThrow x) {
        StringBuilder s = new StringBuilder();
        probeTold(x, s);
        probeSeen(x, s);
        probeGames(x, s, 3);
        s.append("| faults ").append(x.fault(0)).append(' ').append(x.fault(1)).append(' ').append(x.fault(2));
        s.append("| game ").append(x.game(1, 0, 9));
        s.append("| back ").append(x.back());
        probeGames(x, s, 2);
        s.append(x.hope(1, 0)).append("| undo ").append(x.undo());
        x.end(16);
        s.append("| text ").append(x.text(0));
        probeTold(x, s);
        s.append(x.back());
        return s.toString();
    }

    private static void probeTold(EggThrow x, StringBuilder s) {
        s.append("| counts");
        for (int what = 0; what <= 12; what++) {
            s.append(' ').append(x.count(what));
        }
        s.append("| persons");
        int persons = x.count(0);
        for (int i = 0; i < persons; i++) {
            for (int what = 0; what < 4; what++) {
                s.append(' ').append(person(x, i, what));
            }
        }
        s.append("| eggs");
        int eggs = x.count(1);
        for (int i = 0; i < eggs; i++) {
            s.append(' ').append(x.egg(i, 0)).append(' ').append(x.egg(i, 1));
        }
    }

    private static void probeSeen(EggThrow x, StringBuilder s) {
        s.append("| forces");
        for (int i = 0; i < 3; i++) {
            s.append(' ').append(x.force(i, 0, 7 + i, 3, 1 - i)).append(' ').append(x.best(1 + i, i, 5 + i, 1));
        }
        s.append("| hopes ").append(x.hope(1, 0)).append(' ').append(x.hope(10, 1)).append(' ').append(x.safe(21, 10));
        s.append("| strong");
        for (int i = 0; i < 3; i++) {
            s.append(' ').append(x.strong(i, 0)).append(' ').append(x.strong(i, 1));
        }
        s.append("| held ").append(x.held()).append("| films");
        for (int i = 0; i < 4; i++) {
            s.append(' ').append(x.film(i, 0)).append(' ').append(x.film(i, 1)).append(' ').append(x.like(i, 0));
        }
    }

    private static void probeGames(EggThrow x, StringBuilder s, int whats) {
        int games = x.count(10);
        s.append("| games ").append(x.champion());
        for (int i = 0; i < games; i++) {
            for (int what = 3 - whats; what < 3; what++) {
                s.append(' ').append(x.played(i, what));
            }
        }
    }
}
