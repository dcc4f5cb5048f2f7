import java.lang.reflect.InvocationTargetException;
import java.lang.reflect.Method;
import java.util.ArrayList;
import java.util.Arrays;
import java.util.HashMap;
import java.util.List;
import java.util.Map;
import java.util.NoSuchElementException;
import java.util.Random;

/**
 * Runs of calls drawn by a fixed seed, right and wrong ones, each answer held against Oracle's.
 * Arguments: how many runs (400), and the first run's seed (1).
 */
public final class RandomRunsTest {
    /** Each call with the kinds of its arguments (see number). */
    private static final String[] CALLS = {
        "end z", "fault s", "text s", "person pw", "egg ew", "law l", "set wv", "off pnbai", "force pnybo",
        "good tcyh", "best tcyw", "comes tck", "far tc", "hope tc", "first tew", "whom w", "which tnw",
        "witness efB", "strong ew", "arms tcyhg", "legs tcyhg", "bold ttEKj", "duel ttEw", "lot tn", "safe tc",
        "spots tcyg", "stride tcw", "rank ej", "calm tcw", "learn tcKP", "film jw", "raw jRw", "like jj",
        "fete ALw", "crown Ap", "carton tnGw", "spare tny", "least tcyw", "loft tcybw", "gusty tcb",
        "measure pMof", "held ", "chain Cey", "row eyw", "game tcL", "played jw", "champion ", "undo ", "image ",
        "back ", "count x"};
    private static final int[] ODD = {-1, -2, 7, 10, 12, 61, 100, 1000, -1000000, 2147483647, -2147483648};
    private static final int[] PAIRINGS = {10, 1032, 2301, 3210, 103254, 230154, 345012, 543210, 102345, 453201, 11, 1023};
    private static final Map<String, Method> OF_CLASS = methods(EggThrow.class);
    private static final Map<String, Method> OF_ORACLE = methods(Oracle.class);

    private final Random random;
    private final EggThrow made = new EggThrow();
    private final Oracle oracle = new Oracle();
    private final List<String> said = new ArrayList<>();
    private int persons = 2;
    private int eggs = 1;

    private RandomRunsTest(long seed) {
        random = new Random(seed);
    }

    private static Map<String, Method> methods(Class<?> of) {
        Map<String, Method> found = new HashMap<>();
        for (Method m : of.getDeclaredMethods()) {
            m.setAccessible(true);
            boolean isTaken = found.containsKey(m.getName()) && java.lang.reflect.Modifier.isPrivate(m.getModifiers());
            if (!isTaken) {
                found.put(m.getName(), m);
            }
        }
        return found;
    }

    private int below(int n) {
        return random.nextInt(n);
    }

    // ---- texts

    private String blanks() {
        return below(12) == 0 ? " ".repeat(1 + below(2)) : "";
    }

    private String items(String letters, int[] least, int[] most) {
        StringBuilder s = new StringBuilder();
        List<Integer> order = new ArrayList<>();
        for (int i = 0; i < letters.length(); i++) {
            order.add(i);
        }
        java.util.Collections.shuffle(order, random);
        for (int i : order) {
            if (below(3) > 0) {
                int v = least[i] + below(most[i] - least[i] + 1);
                s.append(blanks()).append(letters.charAt(i)).append(blanks());
                s.append(below(9) == 0 && v < 10 ? "0" : "").append(v).append(blanks());
            }
        }
        return s.toString();
    }

    private String meadow() {
        List<String> clauses = new ArrayList<>();
        int many = 2 + below(below(2) == 0 ? 2 : 5);
        for (int i = 0; i < many; i++) {
            clauses.add("p" + items("larb", new int[4], new int[] {below(6), 9, below(6), below(10)}));
        }
        int shells = 1 + below(below(2) == 0 ? 2 : 6);
        for (int i = 0; i < shells; i++) {
            clauses.add("e" + items("bc", new int[] {1, 0}, new int[] {99, 1}));
        }
        if (below(5) > 0) {
            int from = below(4) == 0 ? 60 : 12;
            clauses.add("m" + items("wdsf", new int[] {0, 0, 1, 1}, new int[] {9, 1, 9, from}));
        }
        java.util.Collections.shuffle(clauses, random);
        return blanks() + String.join(blanks() + ";", clauses);
    }

    private String atom(int depth) {
        int sort = below(depth < 6 ? 10 : 8);
        if (sort < 3) {
            return String.valueOf(below(sort == 0 ? 10000 : sort == 1 ? 100 : 10));
        }
        return sort < 8 ? "" + "dbawr".charAt(below(5)) : "[" + sum(depth + 1) + "]";
    }

    private String sum(int depth) {
        StringBuilder s = new StringBuilder(blanks()).append(atom(depth)).append(blanks());
        for (int i = below(4); i > 0; i--) {
            s.append("++-*/".charAt(below(5))).append(blanks()).append(atom(depth)).append(blanks());
        }
        return s.toString();
    }

    private String unit(int depth) {
        int sort = below(depth < 6 ? 6 : 4);
        if (sort < 4) {
            return sum(depth) + "=<>".charAt(below(3)) + sum(depth);
        }
        return sort == 4 ? "!" + blanks() + unit(depth + 1) : "(" + condition(depth + 1) + ")" + blanks();
    }

    private String condition(int depth) {
        StringBuilder s = new StringBuilder(unit(depth));
        for (int i = below(3); i > 0; i--) {
            s.append("&|".charAt(below(2))).append(blanks()).append(unit(depth));
        }
        return s.toString();
    }

    private String lawText() {
        StringBuilder s = new StringBuilder();
        for (int i = below(3); i >= 0; i--) {
            s.append(blanks()).append("y").append(blanks()).append(":").append(blanks());
            s.append(below(2) == 0 ? condition(0) + "?" : "").append(sum(0)).append(i > 0 ? ";" : "");
        }
        return s.toString();
    }

    private String filmText() {
        StringBuilder s = new StringBuilder(blanks());
        for (int i = below(26); i >= 0; i--) {
            s.append(below(below(2) == 0 ? 3 : 10)).append(blanks());
        }
        return s.toString();
    }

    private String spoilt(String text) {
        StringBuilder s = new StringBuilder(text);
        for (int i = below(2); i >= 0; i--) {
            int at = below(s.length() + 1);
            char c = "mpewdsflarbc;0123456789 y:?!([)]|&+-*/=<>".charAt(below(41));
            int sort = below(4);
            if (sort == 0 || at == s.length()) {
                s.insert(at, c);
            } else if (sort == 1) {
                s.setCharAt(at, c);
            } else if (sort == 2) {
                s.deleteCharAt(at);
            } else {
                s.setLength(at);
            }
        }
        return s.toString();
    }

    // ---- calls

    private boolean say(String name, Object... values) {
        String call = name + Arrays.toString(values);
        String got = answer(OF_CLASS.get(name), made, values);
        String due = answer(OF_ORACLE.get(name), oracle, values);
        said.add(call + " -> " + due);
        if (got.equals(due)) {
            return true;
        }
        System.out.println(String.join("\n", said));
        System.out.println(call + " answered " + got + ", due is " + due);
        return false;
    }

    private static String answer(Method method, Object on, Object[] values) {
        try {
            return String.valueOf(method.invoke(on, values));
        } catch (InvocationTargetException e) {
            return e.getCause() instanceof NoSuchElementException ? "NoSuchElementException" : "threw " + e.getCause();
        } catch (IllegalAccessException e) {
            return e.toString();
        }
    }

    private boolean feed(String text) {
        List<Integer> bytes = new ArrayList<>();
        for (char c : text.toCharArray()) {
            if (below(30) == 0) {
                bytes.add(0);
            }
            bytes.add((int) c);
        }
        boolean fine = below(8) == 0 || say("end", 0);
        for (int i = 0; i < bytes.size() && fine; i += 20) {
            Object[] words = new Object[5];
            for (int j = 0; j < 5; j++) {
                int word = 0;
                for (int n = 0; n < 4; n++) {
                    int at = i + 4 * j + n;
                    word = word << 8 | (at < bytes.size() ? bytes.get(at) : 0);
                }
                words[j] = word;
            }
            fine = say("feed", words);
        }
        return fine;
    }

    private boolean tell(int sort) {
        String text = sort == 0 ? meadow() : sort == 1 ? lawText() : filmText();
        boolean isSpoilt = below(3) == 0;
        boolean fine = feed(isSpoilt ? spoilt(text) : text);
        for (int i = 0; i < 3 && fine; i++) {
            fine = say("fault", i);
        }
        fine = fine && say("text", sort);
        if (oracle.count(0) > 0) {
            persons = oracle.count(0);
            eggs = oracle.count(1);
        }
        return fine && say("count", 0) && say("count", 3) && say("count", 8);
    }

    private int number(char kind) {
        if (below(25) == 0) {
            return ODD[below(ODD.length)];
        }
        switch (kind) {
            case 'z': return below(170);
            case 's': return below(4) - 1 + below(2);
            case 'p': return below(persons);
            case 'e': return below(eggs);
            case 'E': return 10 * below(eggs) + below(eggs);
            case 'w': return below(3);
            case 'l': return below(5) - 1;
            case 'v': return below(below(3) == 0 ? 62 : 10);
            case 'n': return below(2);
            case 'b': return below(below(3) == 0 ? 10 : 4);
            case 'a': return below(13) - 6;
            case 'i': return below(5) - 2;
            case 'y': return 1 + below(below(2) == 0 ? 60 : 15);
            case 'o': return below(9) - 4;
            case 't': return pair();
            case 'c': return 10 * below(eggs) + below(2);
            case 'h': return 100 * below(6) + below(11);
            case 'g': return below(below(3) == 0 ? 13 : 4);
            case 'G': return 1 + below(eggs + 1);
            case 'k': return below(below(3) == 0 ? 63 : 8);
            case 'K': return 1 + below(below(3) == 0 ? 61 : 9);
            case 'j': return below(6) - 1;
            case 'P': return below(3) == 0 ? 1000000000 : below(below(2) == 0 ? 10 : 1000000001);
            case 'R': return below(102);
            case 'f': return below(below(3) == 0 ? 1001 : 60);
            case 'A': return PAIRINGS[below(PAIRINGS.length)];
            case 'M': return 100 * (1 + below(60)) + 10 * below(10) + below(2);
            case 'C': return rowDigits();
            default: return below(15) - 1;
        }
    }

    private int pair() {
        int one = below(persons);
        return 10 * one + (one + 1 + below(persons - 1)) % persons;
    }

    private int rowDigits() {
        List<Integer> order = new ArrayList<>();
        for (int i = 0; i < persons; i++) {
            order.add(i);
        }
        java.util.Collections.shuffle(order, random);
        int row = 0;
        for (int i : order) {
            row = 10 * row + i;
        }
        return row;
    }

    private boolean call(String spec) {
        int at = spec.indexOf(' ');
        Object[] values = new Object[spec.length() - at - 1];
        for (int i = 0; i < values.length; i++) {
            char kind = spec.charAt(at + 1 + i);
            values[i] = kind == 'B' ? (Object) random.nextBoolean() : kind == 'L' ? (Object) random.nextLong() : number(kind);
        }
        return say(spec.substring(0, at), values);
    }

    private boolean run() {
        if (!call(CALLS[below(CALLS.length)])) {
            return false;
        }
        for (int i = 0; i < 4; i++) {
            if (!tell(below(3)) || !tell(i % 2)) {
                return false;
            }
            for (int j = 0; j < 40; j++) {
                if (!call(CALLS[below(CALLS.length)])) {
                    return false;
                }
            }
        }
        return true;
    }

    public static void main(String[] args) {
        int runs = args.length > 0 ? Integer.parseInt(args[0]) : 400;
        int from = args.length > 1 ? Integer.parseInt(args[1]) : 1;
        int wrong = 0;
        for (int i = 0; i < runs && wrong < 3; i++) {
            if (!new RandomRunsTest(from + i).run()) {
                System.out.println("run by seed " + (from + i));
                wrong++;
            }
        }
        if (wrong > 0) {
            System.exit(1);
        }
    }
}
