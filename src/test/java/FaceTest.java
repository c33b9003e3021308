import java.lang.reflect.Constructor;
import java.lang.reflect.Field;
import java.lang.reflect.Method;
import java.lang.reflect.Modifier;
import java.util.Set;
import java.util.TreeSet;

/** The face of the class is the document's, and nothing else of it can be seen (LANGUAGE.md, rules 1, 2 and 5). */
public final class FaceTest {
    private static final String[] FACE = {
        "int row(int,int)", "int lay(int,int,int)", "int at(int,int)", "int tear(int)",
        "int copy(int,int,int,int,int)", "int mean(int)", "int text(int,int)", "int put(int,int,int)",
        "int fault(int)", "int garden(int)", "int plant(int,int)", "int mark(int,int)", "int word(int,int)",
        "int day()", "int water(int)", "int pick(int)", "int goat(int)", "int undo(int)", "int keep(int)",
        "int on(int)", "int ripe()", "int when(int,int)", "int sooner(int,int,int)", "int soonest(int,int)",
        "int ways(int)", "int none(int)", "int often(int)", "int seeds(int,int)", "int kinds(int,int)",
        "int guess(int,int,int)", "int listen(int,int)", "int duel(int)", "int odds(int,int)", "int mid(int)",
        "int lots(int,int)", "int asked()", "long upper()", "long lower()", "int count(int)", "int finding()",
        "int findings(int)", "long digest()"};
    private static final String[] CONSTANTS = {"BAD -1", "FULL -2", "FINDING -3", "STATE -4", "SPENT -6", "NONE -9"};

    private static int wrong = 0;

    private static void hold(boolean stands, String what) {
        if (!stands) {
            wrong++;
            System.out.println("face: " + what);
        }
    }

    private static String told(Method m) {
        StringBuilder b = new StringBuilder(m.getReturnType().getSimpleName() + " " + m.getName() + "(");
        for (int i = 0; i < m.getParameterCount(); i++) {
            b.append(i > 0 ? "," : "").append(m.getParameterTypes()[i].getSimpleName());
        }
        return b.append(")").toString();
    }

    private static void checkMethods() {
        Set<String> due = new TreeSet<>(Set.of(FACE));
        Set<String> seen = new TreeSet<>();
        Set<String> names = new TreeSet<>();
        for (Method m : BeanVoices.class.getDeclaredMethods()) {
            if (Modifier.isPublic(m.getModifiers())) {
                seen.add(told(m));
                names.add(m.getName());
                hold(!Modifier.isStatic(m.getModifiers()), m + " is static");
            } else {
                hold(Modifier.isPrivate(m.getModifiers()), m + " can be seen");
            }
        }
        hold(due.equals(seen), "methods are " + seen);
        hold(due.size() == 42, "42 methods are due");
        checkNames(BeanVoices.class, names);
        for (Class<?> inside : BeanVoices.class.getDeclaredClasses()) {
            checkNames(inside, names);
        }
    }

    private static void checkNames(Class<?> c, Set<String> names) {
        for (Method m : c.getDeclaredMethods()) {
            boolean face = c == BeanVoices.class && Modifier.isPublic(m.getModifiers());
            hold(face || !names.contains(m.getName()), m + " bears the name of a call");
        }
    }

    private static void checkFields() throws IllegalAccessException {
        Set<String> seen = new TreeSet<>();
        for (Field f : BeanVoices.class.getDeclaredFields()) {
            boolean constant = Modifier.isStatic(f.getModifiers());
            hold(!constant || Modifier.isFinal(f.getModifiers()), f + " is not final");
            if (Modifier.isPublic(f.getModifiers())) {
                hold(f.getType() == int.class && constant, f + " is no constant");
                seen.add(f.getName() + " " + f.getInt(null));
            } else {
                hold(Modifier.isPrivate(f.getModifiers()), f + " can be seen");
            }
        }
        hold(new TreeSet<>(Set.of(CONSTANTS)).equals(seen), "constants are " + seen);
    }

    public static void main(String[] args) throws IllegalAccessException {
        int m = BeanVoices.class.getModifiers();
        hold(Modifier.isPublic(m) && Modifier.isFinal(m), "the class is public and final");
        Constructor<?>[] made = BeanVoices.class.getDeclaredConstructors();
        hold(made.length == 1 && Modifier.isPublic(made[0].getModifiers()) && made[0].getParameterCount() == 0,
                "one constructor");
        checkMethods();
        checkFields();
        for (Class<?> c : BeanVoices.class.getDeclaredClasses()) {
            hold(Modifier.isStatic(c.getModifiers()) && !Modifier.isPublic(c.getModifiers())
                    && !Modifier.isProtected(c.getModifiers()), c + " is not as told");
        }
        hold(BeanVoices.class.getDeclaredClasses().length <= 12, "too many classes");
        System.out.println("face: " + (wrong == 0 ? "as told" : wrong + " things are not as told"));
        if (wrong != 0) {
            System.exit(1);
        }
    }
}
