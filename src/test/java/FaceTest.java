import java.lang.reflect.Constructor;
import java.lang.reflect.Field;
import java.lang.reflect.Method;
import java.lang.reflect.Modifier;
import java.util.Arrays;
import java.util.List;
import java.util.Set;
import java.util.TreeSet;

/** The public face is the document's and nothing else (LANGUAGE.md, rules 1, 5 and 11). */
final class FaceTest {
    private static final List<String> FACE = List.of(
        "public int AlarmTables.counter(long,long) throws java.lang.ArithmeticException",
        "public int AlarmTables.alarm(int,int,int)",
        "public int AlarmTables.set(int,long,long,boolean)",
        "public int AlarmTables.cancel(int)",
        "public int AlarmTables.table(int,long)",
        "public int AlarmTables.point(int,long,int)",
        "public int AlarmTables.start(int,long)",
        "public int AlarmTables.next(int,int)",
        "public int AlarmTables.sync(int,long)",
        "public int AlarmTables.tick(int,long)",
        "public int AlarmTables.expired(int,int)",
        "public long AlarmTables.deviation(int)");

    private static final Due due = new Due();

    public static void main(String[] args) {
        due.in("face");
        theClassItself();
        methods();
        fields(AlarmTables.class, true);
        for (Class<?> inside : AlarmTables.class.getDeclaredClasses()) {
            due.is(inside + " is static", Modifier.isStatic(inside.getModifiers()) ? 1 : 0, 1);
            due.is(inside + " is not public", Modifier.isPublic(inside.getModifiers()) ? 1 : 0, 0);
            fields(inside, false);
            noFaceNames(inside);
        }
        due.end();
    }

    private static void theClassItself() {
        int m = AlarmTables.class.getModifiers();
        due.is("public final class", Modifier.isPublic(m) && Modifier.isFinal(m) ? 1 : 0, 1);
        Constructor<?>[] made = AlarmTables.class.getDeclaredConstructors();
        due.is("constructors", Arrays.toString(made), "[public AlarmTables()]");
        due.is("classes inside are at most twelve", AlarmTables.class.getDeclaredClasses().length <= 12 ? 1 : 0, 1);
    }

    private static void methods() {
        Set<String> open = new TreeSet<>();
        Set<String> names = new TreeSet<>();
        for (Method m : AlarmTables.class.getDeclaredMethods()) {
            if (!Modifier.isPrivate(m.getModifiers())) {
                open.add(m.toString());
                names.add(m.getName());
            }
        }
        due.is("methods that are not private", open.toString(), new TreeSet<>(FACE).toString());
        for (Method m : AlarmTables.class.getDeclaredMethods()) {
            boolean hides = Modifier.isPrivate(m.getModifiers()) && names.contains(m.getName());
            due.is("private " + m.getName() + " bears the name of a public one", hides ? 1 : 0, 0);
        }
    }

    private static void noFaceNames(Class<?> inside) {
        for (Method m : inside.getDeclaredMethods()) {
            boolean hides = FACE.stream().anyMatch(f -> f.contains("." + m.getName() + "("));
            due.is(inside + " " + m.getName() + " bears the name of a public one", hides ? 1 : 0, 0);
        }
    }

    private static void fields(Class<?> of, boolean allPrivate) {
        int own = 0;
        for (Field f : of.getDeclaredFields()) {
            int m = f.getModifiers();
            if (allPrivate) {
                due.is(f + " is private", Modifier.isPrivate(m) ? 1 : 0, 1);
            }
            if (Modifier.isStatic(m)) {
                due.is(f + " is final", Modifier.isFinal(m) ? 1 : 0, 1);
            } else {
                own++;
            }
        }
        due.is(of + " has at most twenty fields", own <= 20 ? 1 : 0, 1);
    }
}
