import java.lang.reflect.Constructor;
import java.lang.reflect.Field;
import java.lang.reflect.Method;
import java.lang.reflect.Modifier;
import java.util.Arrays;
import java.util.Set;
import java.util.TreeSet;

/** The class has the members of the document's face and shows no other. */
public final class FaceTest {
    private static final String[] FACE = {
        "int feed(int,int,int,int,int)", "boolean end(int)", "int fault(int)", "int text(int)",
        "int person(int,int) throws java.util.NoSuchElementException", "int egg(int,int)", "boolean law(int)",
        "boolean set(int,int)", "int off(int,int,int,int,int)", "int force(int,int,int,int,int)",
        "int good(int,int,int,int)", "int best(int,int,int,int)", "int comes(int,int,int)", "int far(int,int)",
        "long hope(int,int)", "long first(int,int,int)", "long whom(int)", "long which(int,int,int)",
        "int witness(int,int,boolean)", "int strong(int,int)", "int arms(int,int,int,int,int)",
        "int bold(int,int,int,int,int)", "long duel(int,int,int,int)", "long lot(int,int)", "int safe(int,int)",
        "int spots(int,int,int,int)", "int legs(int,int,int,int,int)", "long stride(int,int,int)",
        "int rank(int,int)", "long calm(int,int,int)", "int learn(int,int,int,int)", "int film(int,int)",
        "int raw(int,int,int)", "int like(int,int)", "int fete(int,long,int)", "long crown(int,int)",
        "int carton(int,int,int,int)", "int spare(int,int,int)", "int least(int,int,int,int)",
        "int loft(int,int,int,int,int)", "long gusty(int,int,int)", "int measure(int,int,int,int)", "int held()",
        "int chain(int,int,int)", "int row(int,int,int)", "int game(int,int,long)", "int played(int,int)",
        "int champion()", "int undo()", "int image()", "int back()", "int count(int)"};
    private static int wrong = 0;

    private static void check(boolean holds, String what) {
        if (!holds) {
            wrong++;
            System.out.println("face: " + what);
        }
    }

    private static String told(Method m) {
        StringBuilder s = new StringBuilder(m.getReturnType().getName()).append(' ').append(m.getName()).append('(');
        for (Class<?> p : m.getParameterTypes()) {
            s.append(s.charAt(s.length() - 1) == '(' ? "" : ",").append(p.getName());
        }
        s.append(')');
        for (Class<?> e : m.getExceptionTypes()) {
            s.append(" throws ").append(e.getName());
        }
        return s.toString();
    }

    private static void checkClass() {
        check(Modifier.isPublic(EggThrow.class.getModifiers()), "the class is not public");
        check(Modifier.isFinal(EggThrow.class.getModifiers()), "the class is not final");
        check(EggThrow.NONE == -1, "NONE is not -1");
        check(EggThrow.HIDDEN == -1000000, "HIDDEN is not -1000000");
        Constructor<?>[] made = EggThrow.class.getDeclaredConstructors();
        check(made.length == 1 && made[0].getParameterCount() == 0 && Modifier.isPublic(made[0].getModifiers()),
                "the constructor is not the one of the document");
    }

    private static void checkMethods() {
        Set<String> due = new TreeSet<>(Arrays.asList(FACE));
        Set<String> names = new TreeSet<>();
        for (Method m : EggThrow.class.getDeclaredMethods()) {
            if (Modifier.isPublic(m.getModifiers())) {
                check(due.remove(told(m)), "a public method too many: " + told(m));
                check(!Modifier.isStatic(m.getModifiers()), "a static method: " + told(m));
                names.add(m.getName());
            }
        }
        check(due.isEmpty(), "missing: " + due);
        checkHidden(EggThrow.class, names);
        for (Class<?> inside : EggThrow.class.getDeclaredClasses()) {
            check(Modifier.isStatic(inside.getModifiers()), "not static: " + inside.getName());
            check(Modifier.isPrivate(inside.getModifiers()), "not private: " + inside.getName());
            checkHidden(inside, names);
        }
    }

    private static void checkHidden(Class<?> of, Set<String> names) {
        for (Method m : of.getDeclaredMethods()) {
            boolean isFace = of == EggThrow.class && Modifier.isPublic(m.getModifiers());
            check(isFace || of != EggThrow.class || Modifier.isPrivate(m.getModifiers()), "not private: " + m);
            check(isFace || !names.contains(m.getName()), "bears the name of a public method: " + m);
            check(m.getParameterCount() <= 7, "more than seven parameters: " + m);
        }
    }

    private static void checkFields() {
        for (Field f : EggThrow.class.getDeclaredFields()) {
            boolean isFace = f.getName().equals("NONE") || f.getName().equals("HIDDEN");
            check(Modifier.isPublic(f.getModifiers()) == isFace, "not as shown: " + f);
            check(isFace || Modifier.isPrivate(f.getModifiers()), "not private: " + f);
            check(!Modifier.isStatic(f.getModifiers()) || Modifier.isFinal(f.getModifiers()), "not final: " + f);
        }
    }

    public static void main(String[] args) {
        checkClass();
        checkMethods();
        checkFields();
        if (wrong > 0) {
            System.exit(1);
        }
    }
}
