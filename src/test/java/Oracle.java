import java.util.ArrayList;
import java.util.HashMap;
import java.util.List;
import java.util.Map;
import java.util.NoSuchElementException;

/**
 * The document once more, as slowly and plainly as it is told: no memo but of forces, no pruning,
 * texts looked at sign by sign. RandomRunsTest holds the class against it.
 */
final class Oracle {
    static final int NONE = -1;
    static final int HIDDEN = -1000000;
    private static final long WHOLE = 1000000000L;

    private StringBuilder tape = new StringBuilder();
    private boolean told = false;
    private int[] m = {0, 0, 0, 0};
    private List<int[]> persons = new ArrayList<>();
    private List<int[]> eggs = new ArrayList<>();
    private final List<String> laws = new ArrayList<>();
    private final List<String> films = new ArrayList<>();
    private int held = NONE;
    private List<int[]> witnessed = new ArrayList<>();
    private List<int[]> measured = new ArrayList<>();
    private List<int[]> games = new ArrayList<>();
    private int[] imageM = null;
    private List<int[]> imageGames = null;
    private final Map<Long, Integer> forces = new HashMap<>();

    // ---- texts

    int feed(int a, int b, int c5, int d, int e) {
        StringBuilder more = new StringBuilder();
        for (int w : new int[] {a, b, c5, d, e}) {
            for (int i = 3; i >= 0; i--) {
                int c = w >> 8 * i & 255;
                if (c != 0) {
                    more.append((char) c);
                }
            }
        }
        if (tape.length() + more.length() > 160) {
            return NONE;
        }
        tape.append(more);
        return tape.length();
    }

    boolean end(int n) {
        if (n < 0 || n > tape.length()) {
            return false;
        }
        tape.setLength(n);
        return true;
    }

    int fault(int sort) {
        String t = tape.toString();
        return sort == 0 ? meadowFault(t) : sort == 1 ? lawFault(t) : sort == 2 ? filmFault(t) : -2;
    }

    private static boolean digit(char c) {
        return c >= '0' && c <= '9';
    }

    private static final String[] LETTERS = {"wdsf", "larb", "bc"};
    private static final int[][] LEAST = {{0, 0, 1, 1}, {0, 0, 0, 0}, {1, 0}};
    private static final int[][] MOST = {{9, 1, 9, 60}, {5, 9, 5, 9}, {99, 1}};
    private static final int[][] USUAL = {{0, 0, 2, 4}, {1, 3, 1, 5}, {30, 0}};

    /** A machine of states: 0 a clause is due, 1 an item or ; may come, 2 a digit is due, 3 within a number. */
    private int meadowFault(String t) {
        int[] many = {0, 0, 0};
        int state = 0;
        int kind = 0;
        String seen = "";
        int item = 0;
        String number = "";
        for (int i = 0; i <= t.length(); i++) {
            char c = i < t.length() ? t.charAt(i) : 0;
            if (state == 3) {
                if (digit(c)) {
                    if (number.length() == 2) {
                        return i;
                    }
                    number += c;
                    continue;
                }
                int v = Integer.parseInt(number);
                if (v < LEAST[kind][item] || v > MOST[kind][item]) {
                    return i - 1;
                }
                state = 1;
            }
            if (c == ' ') {
                continue;
            }
            if (state == 0) {
                kind = c == 0 ? -1 : "mpe".indexOf(c);
                if (kind < 0 || many[kind] == (kind == 0 ? 1 : 6)) {
                    return i;
                }
                many[kind]++;
                seen = "";
                state = 1;
            } else if (state == 1) {
                if (c == 0) {
                    return many[1] < 2 || many[2] < 1 ? t.length() : NONE;
                }
                if (c == ';') {
                    state = 0;
                    continue;
                }
                item = LETTERS[kind].indexOf(c);
                if (item < 0 || seen.indexOf(c) >= 0) {
                    return i;
                }
                seen += c;
                state = 2;
            } else {
                if (!digit(c)) {
                    return i;
                }
                number = "" + c;
                state = 3;
            }
        }
        throw new IllegalStateException("never");
    }

    /**
     * A machine with a stack of what stands open. phase of the innermost: U a unit is due, L its
     * left sum, R its right sum, C a unit that is closed, S a sum alone (behind ? or within []),
     * P the first sum of a clause, which may be a sum alone or a left one.
     */
    private int lawFault(String t) {
        String open = "";
        String phases = "";
        int head = 0;
        boolean due = true;
        int run = 0;
        for (int i = 0; i <= t.length(); i++) {
            char c = i < t.length() ? t.charAt(i) : 0;
            if (run > 0 && digit(c)) {
                run++;
                if (run == 5) {
                    return i;
                }
                continue;
            }
            run = 0;
            if (c == ' ') {
                continue;
            }
            if (head < 2) {
                if (c != "y:".charAt(head)) {
                    return i;
                }
                head++;
                phases = "P";
                open = "";
                due = true;
                continue;
            }
            char phase = phases.charAt(phases.length() - 1);
            String outer = phases.substring(0, phases.length() - 1);
            if (due) {
                boolean unitMayBegin = phase == 'U' || phase == 'P';
                if (c == '!' && unitMayBegin) {
                    if (open.length() == 6) {
                        return i;
                    }
                    open += '!';
                    phases = outer + "U";
                } else if (c == '(' && unitMayBegin) {
                    if (open.length() == 6) {
                        return i;
                    }
                    open += '(';
                    phases = outer + "C" + "U";
                } else if (c == '[') {
                    if (open.length() == 6) {
                        return i;
                    }
                    open += '[';
                    phases = outer + (phase == 'U' ? 'L' : phase == 'P' ? 'p' : phase) + "S";
                } else if (digit(c) || c != 0 && "dbawr".indexOf(c) >= 0) {
                    run = digit(c) ? 1 : 0;
                    phases = outer + (phase == 'U' ? 'L' : phase == 'P' ? 'p' : phase);
                    due = false;
                } else {
                    return i;
                }
                continue;
            }
            // behind an atom, or behind a closed unit
            if (c != 0 && "+-*/".indexOf(c) >= 0 && phase != 'C') {
                due = true;
                continue;
            }
            if (c == ']' && open.endsWith("[")) {
                open = open.substring(0, open.length() - 1);
                phases = outer;
                continue;
            }
            if (c != 0 && "=<>".indexOf(c) >= 0 && (phase == 'L' || phase == 'p')) {
                phases = outer + "R";
                due = true;
                continue;
            }
            boolean unitEnds = phase == 'R' || phase == 'C';
            if (unitEnds && !open.endsWith("[") && c != 0 && "&|)?".indexOf(c) >= 0) {
                while (open.endsWith("!")) {
                    open = open.substring(0, open.length() - 1);
                }
                if (c == '&' || c == '|') {
                    phases = outer + "U";
                    due = true;
                    continue;
                }
                if (c == ')' && open.endsWith("(")) {
                    open = open.substring(0, open.length() - 1);
                    phases = outer;
                    continue;
                }
                if (c == '?' && open.isEmpty()) {
                    phases = "S";
                    due = true;
                    continue;
                }
                return i;
            }
            if ((phase == 'S' || phase == 'p') && open.isEmpty() && (c == ';' || c == 0)) {
                if (c == 0) {
                    return NONE;
                }
                head = 0;
                continue;
            }
            return i;
        }
        return t.length();
    }

    private int filmFault(String t) {
        int many = 0;
        for (int i = 0; i < t.length(); i++) {
            char c = t.charAt(i);
            if (c != ' ' && !digit(c) || digit(c) && many == 24) {
                return i;
            }
            many += digit(c) ? 1 : 0;
        }
        return many == 0 ? t.length() : NONE;
    }

    int text(int sort) {
        if (sort < 0 || sort > 2 || fault(sort) != NONE) {
            return NONE;
        }
        String t = tape.toString().replace(" ", "");
        if (sort > 0) {
            List<String> into = sort == 1 ? laws : films;
            if (into.size() == 4) {
                return NONE;
            }
            into.add(t);
            tape.setLength(0);
            return into.size() - 1;
        }
        m = USUAL[0].clone();
        persons = new ArrayList<>();
        eggs = new ArrayList<>();
        for (String clause : t.split(";")) {
            int kind = "mpe".indexOf(clause.charAt(0));
            int[] values = USUAL[kind].clone();
            for (int i = 1; i < clause.length(); ) {
                int item = LETTERS[kind].indexOf(clause.charAt(i));
                int j = i + 1;
                while (j < clause.length() && digit(clause.charAt(j))) {
                    j++;
                }
                values[item] = Integer.parseInt(clause.substring(i + 1, j));
                i = j;
            }
            if (kind == 0) {
                m = values;
            } else {
                (kind == 1 ? persons : eggs).add(values);
            }
        }
        told = true;
        held = NONE;
        witnessed = new ArrayList<>();
        measured = new ArrayList<>();
        games = new ArrayList<>();
        imageM = null;
        imageGames = null;
        tape.setLength(0);
        forces.clear();
        return persons.size();
    }

    // ---- laws, by cutting their texts apart

    /** Where, outside all brackets, the last (or first) of some signs stands; -1: nowhere. */
    private static int find(String s, String signs, boolean last) {
        int depth = 0;
        int found = -1;
        for (int i = 0; i < s.length(); i++) {
            char c = s.charAt(i);
            depth += c == '(' || c == '[' ? 1 : c == ')' || c == ']' ? -1 : 0;
            if (depth == 0 && signs.indexOf(c) >= 0) {
                if (!last) {
                    return i;
                }
                found = i;
            }
        }
        return found;
    }

    private static long clamp(long v) {
        return Math.max(-1000000L, Math.min(1000000L, v));
    }

    private static long sum(String s, int[] v) {
        int at = find(s, "+-", true);
        if (at >= 0) {
            long a = sum(s.substring(0, at), v);
            long b = sum(s.substring(at + 1), v);
            return clamp(s.charAt(at) == '+' ? a + b : a - b);
        }
        at = find(s, "*/", true);
        if (at >= 0) {
            long a = sum(s.substring(0, at), v);
            long b = sum(s.substring(at + 1), v);
            return clamp(s.charAt(at) == '*' ? a * b : b == 0 ? 0 : a / b);
        }
        if (s.charAt(0) == '[') {
            return sum(s.substring(1, s.length() - 1), v);
        }
        return digit(s.charAt(0)) ? Long.parseLong(s) : v["dbawr".indexOf(s.charAt(0))];
    }

    private static boolean holds(String s, int[] v) {
        int at = find(s, "|", false);
        if (at >= 0) {
            return holds(s.substring(0, at), v) | holds(s.substring(at + 1), v);
        }
        at = find(s, "&", false);
        if (at >= 0) {
            return holds(s.substring(0, at), v) & holds(s.substring(at + 1), v);
        }
        if (s.charAt(0) == '!') {
            return !holds(s.substring(1), v);
        }
        if (s.charAt(0) == '(') {
            return holds(s.substring(1, s.length() - 1), v);
        }
        at = find(s, "=<>", false);
        long a = sum(s.substring(0, at), v);
        long b = sum(s.substring(at + 1), v);
        return s.charAt(at) == '=' ? a == b : s.charAt(at) == '<' ? a < b : a > b;
    }

    private static long worth(String law, int[] v) {
        for (String clause : law.split(";")) {
            String body = clause.substring(2);
            int at = body.indexOf('?');
            if (at < 0 || holds(body.substring(0, at), v)) {
                return sum(body.substring(at + 1), v);
            }
        }
        return 0;
    }

    // ---- throws

    private int blows(int end, int wind) {
        return end == m[1] ? wind : -wind;
    }

    private int forceBy(int law, int arm, int blows, int yards, int bow, int off) {
        long key = ((((law + 1L) * 10 + arm) * 19 + blows + 9) * 61 + yards) * 10 + bow;
        key = key * 200 + off + 99;
        Integer known = forces.get(key);
        if (known != null) {
            return known;
        }
        long f;
        if (law == NONE) {
            f = 2 * yards + 3 * Math.abs(bow - yards / 4) - 2 * arm - blows + (off > 0 ? off : 3 * Math.abs(off));
        } else {
            f = worth(laws.get(law), new int[] {yards, bow, arm, blows, off});
        }
        int force = (int) Math.max(0, Math.min(999, f));
        forces.put(key, force);
        return force;
    }

    private boolean caught(int[] by, int[] to, int[] egg, int blows, int yards, int[] bowAimSlip) {
        int off = bowAimSlip[1] + bowAimSlip[2] + blows * bowAimSlip[0] / 4;
        if (Math.abs(off) > to[2]) {
            return false;
        }
        int bears = egg[1] == 1 ? egg[0] / 2 : egg[0];
        return forceBy(held, to[1], blows, yards, bowAimSlip[0], off) <= bears;
    }

    private int goodOf(int[] by, int[] to, int[] egg, int blows, int yards, int bow, int aim) {
        int good = 0;
        for (int slip = -by[0]; slip <= by[0]; slip++) {
            good += caught(by, to, egg, blows, yards, new int[] {bow, aim, slip}) ? 1 : 0;
        }
        return good;
    }

    /** BOW, AIM, GOOD. */
    private int[] bestOf(int[] by, int[] to, int[] egg, int blows, int yards) {
        int[] best = {0, 0, -1};
        for (int bow = 0; bow <= by[3]; bow++) {
            for (int aim = -5; aim <= 5; aim++) {
                int good = goodOf(by, to, egg, blows, yards, bow, aim);
                if (good > best[2]) {
                    best = new int[] {bow, aim, good};
                }
            }
        }
        return best;
    }

    private boolean pair(int two) {
        return told && two >= 0 && two / 10 < persons.size() && two % 10 < persons.size() && two / 10 != two % 10;
    }

    private boolean eggEnd(int code) {
        return told && code >= 0 && code / 10 < eggs.size() && code % 10 < 2;
    }

    private boolean isEgg(int egg) {
        return told && egg >= 0 && egg < eggs.size();
    }

    private static boolean yardsFine(int yards) {
        return yards >= 1 && yards <= 60;
    }

    private boolean how(int two, int how) {
        return how >= 0 && how % 100 <= 10 && how / 100 <= persons.get(two / 10)[3];
    }

    int person(int person, int what) {
        if (person < 0 || person >= persons.size() || what < 0 || what > 3) {
            throw new NoSuchElementException();
        }
        return persons.get(person)[what];
    }

    int egg(int egg, int what) {
        return !isEgg(egg) || what < 0 || what > 1 ? NONE : eggs.get(egg)[what];
    }

    boolean law(int law) {
        if (!told || law < -1 || law >= laws.size()) {
            return false;
        }
        held = law;
        return true;
    }

    boolean set(int what, int v) {
        if (!told || what < 0 || what > 3 || v < LEAST[0][what] || v > MOST[0][what] || m[what] == v) {
            return false;
        }
        m[what] = v;
        return true;
    }

    int off(int by, int end, int bow, int aim, int slip) {
        if (by < 0 || by >= persons.size() || end < 0 || end > 1 || aim < -5 || aim > 5) {
            return HIDDEN;
        }
        int[] p = persons.get(by);
        if (bow < 0 || bow > p[3] || slip < -p[0] || slip > p[0]) {
            return HIDDEN;
        }
        return aim + slip + blows(end, m[0]) * bow / 4;
    }

    int force(int to, int end, int yards, int bow, int off) {
        if (to < 0 || to >= persons.size() || end < 0 || end > 1 || !yardsFine(yards)) {
            return HIDDEN;
        }
        if (bow < 0 || bow > 9 || off < -99 || off > 99) {
            return HIDDEN;
        }
        return forceBy(held, persons.get(to)[1], blows(end, m[0]), yards, bow, off);
    }

    private int goodWith(int two, int egg, int yards, int how, int[] to) {
        return goodOf(persons.get(two / 10), to, eggs.get(egg / 10), blows(egg % 10, m[0]), yards,
                how / 100, how % 100 - 5);
    }

    int good(int two, int egg, int yards, int how) {
        if (!pair(two) || !eggEnd(egg) || !yardsFine(yards) || !how(two, how)) {
            return NONE;
        }
        return goodWith(two, egg, yards, how, persons.get(two % 10));
    }

    private int[] bestFor(int two, int egg, int yards) {
        return bestOf(persons.get(two / 10), persons.get(two % 10), eggs.get(egg / 10), blows(egg % 10, m[0]), yards);
    }

    int best(int two, int egg, int yards, int what) {
        if (!pair(two) || !eggEnd(egg) || !yardsFine(yards) || what < 0 || what > 2) {
            return HIDDEN;
        }
        return bestFor(two, egg, yards)[what];
    }

    private int slips(int person) {
        return 2 * persons.get(person)[0] + 1;
    }

    private static int other(int two) {
        return two % 10 * 10 + two / 10;
    }

    private static int otherEnd(int egg) {
        return egg / 10 * 10 + (egg % 10 == 0 ? 1 : 0);
    }

    private int yardsOf(int k) {
        return m[3] + (k - 1) * m[2];
    }

    /** COMES of k = 0 .. 61. */
    private long[] course(int two, int egg) {
        long[] comes = new long[62];
        comes[0] = WHOLE;
        for (int k = 1; k <= 60 && yardsOf(k) <= 60; k++) {
            int t = k % 2 == 1 ? two : other(two);
            int e = k % 2 == 1 ? egg : otherEnd(egg);
            comes[k] = comes[k - 1] == 0 ? 0 : comes[k - 1] * bestFor(t, e, yardsOf(k))[2] / slips(t / 10);
        }
        return comes;
    }

    int comes(int two, int egg, int k) {
        if (!pair(two) || !eggEnd(egg) || k < 0) {
            return NONE;
        }
        return k > 61 ? 0 : (int) course(two, egg)[k];
    }

    int far(int two, int egg) {
        if (!pair(two) || !eggEnd(egg)) {
            return NONE;
        }
        long[] comes = course(two, egg);
        int far = 0;
        for (int k = 1; k < comes.length; k++) {
            far = comes[k] > 0 ? k : far;
        }
        return far;
    }

    long hope(int two, int egg) {
        if (!pair(two) || !eggEnd(egg)) {
            return NONE;
        }
        long sum = 0;
        for (long parts : course(two, egg)) {
            sum += parts;
        }
        return sum - WHOLE;
    }

    long first(int two, int egg, int what) {
        if (!pair(two) || !isEgg(egg) || what < 0 || what > 1) {
            return NONE;
        }
        long most = -1;
        int which = 0;
        for (int code = 0; code < 60; code++) {
            boolean isOne = code / 10 == two / 10;
            boolean isOther = code / 10 == two % 10;
            if (code % 10 > 1 || !isOne && !isOther) {
                continue;
            }
            long h = hope(isOne ? two : other(two), 10 * egg + code % 10);
            if (h > most) {
                most = h;
                which = code;
            }
        }
        return what == 0 ? which : most;
    }

    /** The digits of a number, as many as PERSONS; null if it has more, or one too high. */
    private int[] digits(int number) {
        int n = persons.size();
        int[] d = new int[n];
        int rest = number;
        for (int i = n - 1; i >= 0 && rest >= 0; i--) {
            d[i] = rest % 10;
            rest = d[i] >= n ? -1 : rest / 10;
        }
        return n == 0 || rest != 0 ? null : d;
    }

    /** Codes of pairs by their lower persons; null if the digits tell none. */
    private int[] pairs(int number) {
        int[] d = digits(number);
        if (d == null) {
            return null;
        }
        List<Integer> found = new ArrayList<>();
        for (int i = 0; i < d.length; i++) {
            if (d[i] == i || d[d[i]] != i) {
                return null;
            }
            if (i < d[i]) {
                found.add(10 * i + d[i]);
            }
        }
        int[] codes = new int[found.size()];
        for (int i = 0; i < codes.length; i++) {
            codes[i] = found.get(i);
        }
        return codes;
    }

    long whom(int what) {
        if (!told || persons.size() % 2 == 1 || what < 0 || what > 1) {
            return NONE;
        }
        int most = 1;
        for (int i = 0; i < persons.size(); i++) {
            most *= 10;
        }
        long best = -1;
        int which = -1;
        Map<Integer, Long> hopes = new HashMap<>();
        for (int number = 0; number < most; number++) {
            int[] codes = pairs(number);
            if (codes == null) {
                continue;
            }
            long sum = 0;
            for (int code : codes) {
                if (!hopes.containsKey(code)) {
                    hopes.put(code, hope(code, 0));
                }
                sum += hopes.get(code);
            }
            if (sum > best) {
                best = sum;
                which = number;
            }
        }
        return what == 0 ? which : best;
    }

    long which(int two, int end, int what) {
        if (!pair(two) || end < 0 || end > 1 || what < 0 || what > 1) {
            return NONE;
        }
        int which = 0;
        for (int egg = 1; egg < eggs.size(); egg++) {
            if (hope(two, 10 * egg + end) > hope(two, 10 * which + end)) {
                which = egg;
            }
        }
        return what == 0 ? which : hope(two, 10 * which + end);
    }

    int witness(int egg, int force, boolean bore) {
        if (!isEgg(egg) || force < 0 || force > 999 || witnessed.size() == 20) {
            return NONE;
        }
        witnessed.add(new int[] {egg, force, bore ? 1 : 0});
        return witnessed.size();
    }

    int strong(int egg, int what) {
        if (!isEgg(egg) || what < 0 || what > 2) {
            return HIDDEN;
        }
        List<Integer> could = new ArrayList<>();
        for (int b = 1; b <= 99; b++) {
            boolean fits = true;
            for (int[] w : witnessed) {
                int bears = eggs.get(egg)[1] == 1 ? b / 2 : b;
                fits &= w[0] != egg || (w[2] == 1 ? w[1] <= bears : w[1] > bears);
            }
            if (fits) {
                could.add(b);
            }
        }
        if (what == 0) {
            return could.size();
        }
        return could.isEmpty() ? NONE : could.get(what == 1 ? 0 : could.size() - 1);
    }

    private int bitsOf(int two, int egg, int yards, int how, int least, int part) {
        if (!pair(two) || !eggEnd(egg) || !yardsFine(yards) || !how(two, how) || least < 0 || least > 11) {
            return NONE;
        }
        int bits = 0;
        for (int v = 0; v <= (part == 1 ? 9 : 5); v++) {
            int[] to = persons.get(two % 10).clone();
            to[part] = v;
            if (goodWith(two, egg, yards, how, to) >= least) {
                bits += 1 << v;
            }
        }
        return bits;
    }

    int arms(int two, int egg, int yards, int how, int least) {
        return bitsOf(two, egg, yards, how, least, 1);
    }

    int legs(int two, int egg, int yards, int how, int least) {
        return bitsOf(two, egg, yards, how, least, 2);
    }

    private boolean twoPairs(int one, int other, int eggCodes) {
        return pair(one) && pair(other) && eggCodes >= 0 && isEgg(eggCodes / 10) && isEgg(eggCodes % 10);
    }

    private long own(int two, int egg, int step, int k) {
        int kept = m[2];
        m[2] = step;
        long gain = yardsOf(k) > 60 ? 0 : yardsOf(k) * course(two, 10 * egg)[k] / 1000000;
        m[2] = kept;
        return gain;
    }

    int bold(int one, int other, int eggCodes, int k, int i) {
        if (!twoPairs(one, other, eggCodes) || k < 1 || k > 9) {
            return NONE;
        }
        long[] a = new long[4];
        long[] b = new long[4];
        for (int s = 1; s <= 3; s++) {
            a[s] = own(one, eggCodes / 10, s, k);
            b[s] = own(other, eggCodes % 10, s, k);
        }
        List<Integer> rests = new ArrayList<>();
        for (int s = 1; s <= 3; s++) {
            for (int t = 1; t <= 3; t++) {
                boolean rest = true;
                for (int u = 1; u <= 3; u++) {
                    rest &= a[u] - b[t] / 2 <= a[s] - b[t] / 2 && b[u] - a[s] / 2 <= b[t] - a[s] / 2;
                }
                if (rest) {
                    rests.add(10 * s + t);
                }
            }
        }
        return i == NONE ? rests.size() : i < 0 || i >= rests.size() ? NONE : rests.get(i);
    }

    long duel(int one, int other, int eggCodes, int what) {
        if (!twoPairs(one, other, eggCodes) || what < 0 || what > 1) {
            return NONE;
        }
        long[] a = course(one, eggCodes / 10 * 10);
        long[] b = course(other, eggCodes % 10 * 10);
        long sum = 0;
        for (int k = 0; k < 61; k++) {
            long against = what == 0 ? WHOLE - b[k] : b[k] - b[k + 1];
            sum += (a[k] - a[k + 1]) * against / WHOLE;
        }
        return sum;
    }

    long lot(int two, int end) {
        if (!pair(two) || end < 0 || end > 1) {
            return NONE;
        }
        long sum = 0;
        for (int egg = 0; egg < eggs.size(); egg++) {
            sum += hope(two, 10 * egg + end);
        }
        return sum / eggs.size();
    }

    private boolean sure(int two, int egg, int yards) {
        return bestFor(two, egg, yards)[2] == slips(two / 10);
    }

    int safe(int two, int egg) {
        if (!pair(two) || !eggEnd(egg)) {
            return NONE;
        }
        int most = NONE;
        for (int yards = 1; yards <= 60; yards++) {
            most = sure(two, egg, yards) ? yards : most;
        }
        return most;
    }

    int spots(int two, int egg, int yards, int least) {
        if (!pair(two) || !eggEnd(egg) || !yardsFine(yards) || least < 0 || least > 11) {
            return NONE;
        }
        int spots = 0;
        for (int how = 0; how < 1000; how++) {
            spots += good(two, egg, yards, how) >= least && how(two, how) ? 1 : 0;
        }
        return spots;
    }

    long stride(int two, int egg, int what) {
        if (!pair(two) || !eggEnd(egg) || what < 0 || what > 1) {
            return NONE;
        }
        int kept = m[2];
        long most = -1;
        int which = 0;
        for (int step = 1; step <= 9; step++) {
            m[2] = step;
            long[] comes = course(two, egg);
            long sum = 0;
            for (int k = 1; k <= 60 && yardsOf(k) <= 60; k++) {
                sum += yardsOf(k) * comes[k] / 1000000;
            }
            if (sum > most) {
                most = sum;
                which = step;
            }
        }
        m[2] = kept;
        return what == 0 ? which : most;
    }

    int rank(int egg, int i) {
        if (!isEgg(egg)) {
            return NONE;
        }
        List<long[]> all = new ArrayList<>();
        for (int code = 1; code < 60; code++) {
            if (pair(code) && code / 10 < code % 10) {
                all.add(new long[] {hope(code, 10 * egg), code});
            }
        }
        all.sort((a, b) -> a[0] != b[0] ? Long.compare(b[0], a[0]) : Long.compare(a[1], b[1]));
        return i < 0 || i >= all.size() ? NONE : (int) all.get(i)[1];
    }

    private long hopeIn(int wind, int two, int egg) {
        int kept = m[0];
        m[0] = wind;
        long h = hope(two, egg);
        m[0] = kept;
        return h;
    }

    long calm(int two, int egg, int what) {
        if (!pair(two) || !eggEnd(egg) || what < 0 || what > 1) {
            return NONE;
        }
        long most = -1;
        int which = 0;
        for (int wind = 0; wind <= 9; wind++) {
            long h = hopeIn(wind, two, egg);
            if (h > most) {
                most = h;
                which = wind;
            }
        }
        return what == 0 ? which : most;
    }

    long gusty(int two, int egg, int g) {
        if (!pair(two) || !eggEnd(egg) || g < 0 || g > 9) {
            return NONE;
        }
        long sum = 0;
        for (int wind = 0; wind <= g; wind++) {
            sum += hopeIn(wind, two, egg);
        }
        return sum / (g + 1);
    }

    int learn(int two, int egg, int k, int parts) {
        if (!pair(two) || !eggEnd(egg) || k < 0 || k > 60 || parts < 0 || parts > WHOLE) {
            return NONE;
        }
        int[] one = persons.get(two / 10);
        int[] other = persons.get(two % 10);
        int a = one[3];
        int b = other[3];
        int least = NONE;
        for (int x = 0; a + x <= 9; x++) {
            for (int y = 0; b + y <= 9; y++) {
                if (least != NONE && x + y >= least / 10 + least % 10) {
                    continue;
                }
                one[3] = a + x;
                other[3] = b + y;
                least = comes(two, egg, k) >= parts ? 10 * x + y : least;
            }
        }
        one[3] = a;
        other[3] = b;
        return least;
    }

    // ---- films

    private boolean isFilm(int film) {
        return film >= 0 && film < films.size();
    }

    private static int turns(String s) {
        int turns = 0;
        for (int i = 1; i < s.length() - 1; i++) {
            char c = s.charAt(i);
            int a = i;
            while (a >= 0 && s.charAt(a) == c) {
                a--;
            }
            int b = i;
            while (b < s.length() && s.charAt(b) == c) {
                b++;
            }
            if (a < 0 || b == s.length() || s.charAt(i - 1) == c) {
                continue;
            }
            turns += s.charAt(a) < c && s.charAt(b) < c || s.charAt(a) > c && s.charAt(b) > c ? 1 : 0;
        }
        return turns;
    }

    int film(int film, int what) {
        if (!isFilm(film) || what < 0 || what > 1) {
            return NONE;
        }
        return what == 0 ? turns(films.get(film)) : films.get(film).length();
    }

    int raw(int film, int raws, int part) {
        if (!isFilm(film) || raws < 0 || raws > 100 || part < 0 || part > 1) {
            return NONE;
        }
        int one = raws * (turns(films.get(film)) + 1);
        int both = one + (100 - raws) * (films.get(film).length() / 4 + 1);
        for (int d = both; d > 1; d--) {
            if (one % d == 0 && both % d == 0) {
                one /= d;
                both /= d;
            }
        }
        return part == 0 ? one : both;
    }

    int like(int film, int other) {
        if (!isFilm(film) || !isFilm(other)) {
            return NONE;
        }
        String a = films.get(film);
        String b = films.get(other);
        int differ = Math.abs(a.length() - b.length());
        for (int i = 0; i < a.length() && i < b.length(); i++) {
            differ += a.charAt(i) == b.charAt(i) ? 0 : 1;
        }
        return differ;
    }

    // ---- games, fetes, crowns

    private boolean drawThrow(int two, int egg, int k, long[] x) {
        int t = k % 2 == 1 ? two : other(two);
        int e = k % 2 == 1 ? egg : otherEnd(egg);
        int[] best = bestFor(t, e, yardsOf(k));
        x[0] = x[0] * 6364136223846793005L + 1442695040888963407L;
        int slip = (int) ((x[0] >>> 33) % slips(t / 10)) - persons.get(t / 10)[0];
        return caught(persons.get(t / 10), persons.get(t % 10), eggs.get(e / 10), blows(e % 10, m[0]), yardsOf(k),
                new int[] {best[0], best[1], slip});
    }

    int game(int two, int egg, long seed) {
        if (!pair(two) || !eggEnd(egg) || games.size() == 40) {
            return NONE;
        }
        long[] x = {seed};
        int k = 1;
        while (yardsOf(k) <= 60 && drawThrow(two, egg, k, x)) {
            k++;
        }
        games.add(new int[] {two, egg, k - 1});
        return k - 1;
    }

    int fete(int number, long seed, int what) {
        int[] codes = told ? pairs(number) : null;
        if (codes == null || what < 0 || what > 1) {
            return NONE;
        }
        List<Integer> left = new ArrayList<>();
        for (int j = 0; j < codes.length; j++) {
            left.add(j);
        }
        long[] x = {seed};
        int rounds = 0;
        List<Integer> out = new ArrayList<>();
        while (left.size() > 1 && yardsOf(rounds + 1) <= 60) {
            rounds++;
            List<Integer> still = new ArrayList<>();
            out = new ArrayList<>();
            for (int j : left) {
                (drawThrow(codes[j], j % eggs.size() * 10, rounds, x) ? still : out).add(j);
            }
            left = still;
        }
        int bits = 0;
        for (int j : left.isEmpty() ? out : left) {
            bits |= 1 << codes[j] / 10;
        }
        return what == 0 ? bits : rounds;
    }

    long crown(int number, int lower) {
        int[] codes = told ? pairs(number) : null;
        if (codes == null) {
            return NONE;
        }
        int own = NONE;
        long[][] comes = new long[codes.length][];
        for (int j = 0; j < codes.length; j++) {
            own = codes[j] / 10 == lower ? j : own;
            comes[j] = course(codes[j], j % eggs.size() * 10);
        }
        if (own == NONE) {
            return NONE;
        }
        long sum = 0;
        for (int k = 0; k < 61; k++) {
            long parts = comes[own][k] - comes[own][k + 1];
            for (int j = 0; j < codes.length; j++) {
                parts = j == own ? parts : parts * (WHOLE - comes[j][k]) / WHOLE;
            }
            sum += parts;
        }
        return sum;
    }

    int carton(int two, int end, int n, int what) {
        if (!pair(two) || end < 0 || end > 1 || n < 1 || n > eggs.size() || what < 0 || what > 1 || yardsOf(n) > 60) {
            return NONE;
        }
        int[][] goods = new int[n][eggs.size()];
        for (int k = 1; k <= n; k++) {
            for (int e = 0; e < eggs.size(); e++) {
                int code = 10 * e + end;
                goods[k - 1][e] = bestFor(k % 2 == 1 ? two : other(two), k % 2 == 1 ? code : otherEnd(code), yardsOf(k))[2];
            }
        }
        int most = 1;
        for (int i = 0; i < n; i++) {
            most *= 10;
        }
        long best = -1;
        int which = -1;
        for (int number = 0; number < most; number++) {
            int used = 0;
            long parts = WHOLE;
            for (int i = 0, by = most / 10; i < n; i++, by /= 10) {
                int e = number / by % 10;
                if (e >= eggs.size() || (used >> e & 1) == 1) {
                    parts = -1;
                    break;
                }
                used |= 1 << e;
                parts = parts * goods[i][e] / slips(i % 2 == 0 ? two / 10 : two % 10);
            }
            if (parts > best) {
                best = parts;
                which = number;
            }
        }
        return what == 0 ? which : (int) best;
    }

    int spare(int two, int end, int yards) {
        if (!pair(two) || end < 0 || end > 1 || !yardsFine(yards)) {
            return NONE;
        }
        int spare = NONE;
        int least = 1000;
        for (int e = 0; e < eggs.size(); e++) {
            int bears = eggs.get(e)[1] == 1 ? eggs.get(e)[0] / 2 : eggs.get(e)[0];
            if (sure(two, 10 * e + end, yards) && bears < least) {
                least = bears;
                spare = e;
            }
        }
        return spare;
    }

    int least(int two, int egg, int yards, int what) {
        if (!pair(two) || !eggEnd(egg) || !yardsFine(yards) || what < 0 || what > 1) {
            return NONE;
        }
        for (int v = 0; v <= (what == 0 ? 9 : 5); v++) {
            int[] to = persons.get(two % 10).clone();
            to[what + 1] = v;
            int[] best = bestOf(persons.get(two / 10), to, eggs.get(egg / 10), blows(egg % 10, m[0]), yards);
            if (best[2] == slips(two / 10)) {
                return v;
            }
        }
        return NONE;
    }

    int loft(int two, int egg, int yards, int bow, int what) {
        if (!pair(two) || !eggEnd(egg) || !yardsFine(yards) || bow < 0 || bow > persons.get(two / 10)[3]
                || what < 0 || what > 1) {
            return HIDDEN;
        }
        int which = -5;
        for (int aim = -4; aim <= 5; aim++) {
            int a = good(two, egg, yards, 100 * bow + aim + 5);
            int b = good(two, egg, yards, 100 * bow + which + 5);
            if (a > b || a == b && Math.abs(aim) < Math.abs(which)) {
                which = aim;
            }
        }
        return what == 0 ? which : good(two, egg, yards, 100 * bow + which + 5);
    }

    int measure(int to, int how, int off, int force) {
        if (to < 0 || to >= persons.size() || how < 0 || how % 10 > 1 || !yardsFine(how / 100)) {
            return NONE;
        }
        if (off < -99 || off > 99 || force < 0 || force > 999 || measured.size() == 20) {
            return NONE;
        }
        measured.add(new int[] {to, how, off, force});
        return measured.size();
    }

    int held() {
        if (!told) {
            return NONE;
        }
        int bits = 0;
        for (int law = -1; law < laws.size(); law++) {
            boolean so = true;
            for (int[] f : measured) {
                int blows = blows(f[1] % 10, m[0]);
                so &= forceBy(law, persons.get(f[0])[1], blows, f[1] / 100, f[1] / 10 % 10, f[2]) == f[3];
            }
            bits |= so ? 1 << (law == -1 ? 4 : law) : 0;
        }
        return bits;
    }

    private long chainOf(int[] row, int egg, int yards) {
        long parts = WHOLE;
        for (int i = 0; i + 1 < row.length; i++) {
            parts = parts * bestFor(10 * row[i] + row[i + 1], 10 * egg, yards)[2] / slips(row[i]);
        }
        return parts;
    }

    private int[] rowOf(int number) {
        int[] d = digits(number);
        int used = 0;
        for (int i = 0; d != null && i < d.length; i++) {
            used |= 1 << d[i];
        }
        return used == (1 << persons.size()) - 1 ? d : null;
    }

    int chain(int row, int egg, int yards) {
        if (!isEgg(egg) || !yardsFine(yards) || rowOf(row) == null) {
            return NONE;
        }
        return (int) chainOf(rowOf(row), egg, yards);
    }

    int row(int egg, int yards, int what) {
        if (!isEgg(egg) || !yardsFine(yards) || what < 0 || what > 1) {
            return NONE;
        }
        long[][] goods = new long[6][6];
        for (int a = 0; a < persons.size(); a++) {
            for (int b = 0; b < persons.size(); b++) {
                goods[a][b] = a == b ? 0 : bestFor(10 * a + b, 10 * egg, yards)[2];
            }
        }
        int most = 1;
        for (int i = 0; i < persons.size(); i++) {
            most *= 10;
        }
        long best = -1;
        int which = -1;
        for (int number = 0; number < most; number++) {
            int[] row = rowOf(number);
            if (row == null) {
                continue;
            }
            long parts = WHOLE;
            for (int i = 0; i + 1 < row.length; i++) {
                parts = parts * goods[row[i]][row[i + 1]] / slips(row[i]);
            }
            if (parts > best) {
                best = parts;
                which = number;
            }
        }
        return what == 0 ? which : (int) best;
    }

    int played(int game, int what) {
        return game < 0 || game >= games.size() || what < 0 || what > 2 ? NONE : games.get(game)[what];
    }

    int champion() {
        int which = NONE;
        for (int i = games.size() - 1; i >= 0; i--) {
            which = which == NONE || games.get(i)[2] >= games.get(which)[2] ? i : which;
        }
        return which;
    }

    int undo() {
        if (games.isEmpty()) {
            return NONE;
        }
        games.remove(games.size() - 1);
        return games.size();
    }

    int image() {
        if (!told) {
            return NONE;
        }
        imageM = m.clone();
        imageGames = new ArrayList<>(games);
        return games.size();
    }

    int back() {
        if (imageM == null) {
            return NONE;
        }
        m = imageM.clone();
        games = new ArrayList<>(imageGames);
        return games.size();
    }

    int count(int what) {
        int[] counts = {persons.size(), eggs.size(), laws.size(), tape.length(), m[0], m[1], m[2], m[3], held,
            witnessed.size(), games.size(), films.size(), measured.size()};
        return what < 0 || what >= counts.length ? HIDDEN : counts[what];
    }
}
