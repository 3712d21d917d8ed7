import java.lang.reflect.Constructor;
import java.lang.reflect.Field;
import java.lang.reflect.InvocationTargetException;
import java.lang.reflect.Method;
import java.lang.reflect.Modifier;
import java.util.ArrayList;
import java.util.Arrays;
import java.util.List;
import java.util.Random;
import java.util.TreeMap;
import java.util.TreeSet;

/** The public face, and that each call throws what it tells and nothing else, whatever is handed to it. */
public final class FaceTest {
    private static final String[] FACE = {
        "int addRoute() IllegalStateException",
        "int addStep(int,int,int,int,int,boolean) IndexOutOfBoundsException,IllegalArgumentException,IllegalStateException",
        "int setRework(int,int,int) IndexOutOfBoundsException,IllegalArgumentException",
        "int addTool(int,int,int,int,int,int) IllegalArgumentException,IllegalStateException",
        "boolean setQualified(int,int,int,boolean) IndexOutOfBoundsException,UnsupportedOperationException",
        "int setRule(char,char,char,char) IllegalArgumentException",
        "boolean askRest(int) IndexOutOfBoundsException",
        "int start(int,int,int) IndexOutOfBoundsException,IllegalArgumentException,UnsupportedOperationException,"
            + "IllegalStateException",
        "int split(int,int) IndexOutOfBoundsException,IllegalArgumentException,UnsupportedOperationException,"
            + "IllegalStateException",
        "int merge(int,int) IndexOutOfBoundsException,IllegalArgumentException,UnsupportedOperationException",
        "int scrap(int,int) IndexOutOfBoundsException,IllegalArgumentException,UnsupportedOperationException",
        "boolean hold(int) IndexOutOfBoundsException",
        "boolean release(int) IndexOutOfBoundsException",
        "int pass(int) IllegalArgumentException,IllegalStateException",
        "int tick() ",
        "char lotState(int) IndexOutOfBoundsException",
        "char causeOf(int) IndexOutOfBoundsException,NoSuchElementException",
        "int stepOf(int) IndexOutOfBoundsException",
        "int wafers(int) IndexOutOfBoundsException",
        "int limitOf(int) IndexOutOfBoundsException,NoSuchElementException",
        "int toolOf(int) IndexOutOfBoundsException,NoSuchElementException",
        "int parentOf(int) IndexOutOfBoundsException",
        "int records(int) IndexOutOfBoundsException",
        "int recordAt(int,int,char) IndexOutOfBoundsException,IllegalArgumentException",
        "char toolState(int) IndexOutOfBoundsException",
        "int setupOf(int) IndexOutOfBoundsException,NoSuchElementException",
        "int driftOf(int) IndexOutOfBoundsException",
        "int useOf(int) IndexOutOfBoundsException",
        "int correction(int,int,int) IndexOutOfBoundsException",
        "int measures(int) IndexOutOfBoundsException",
        "char why(int,int) IndexOutOfBoundsException",
        "int promised(int) IndexOutOfBoundsException,UnsupportedOperationException",
        "int yieldOf(int) IndexOutOfBoundsException,NoSuchElementException",
        "int excursions() ",
        "long moves() ",
        "float workingShare() ArithmeticException",
        "double meanTime() ArithmeticException",
        "boolean isSound() ",
    };
    private static final int[] WILD = {Integer.MIN_VALUE, Integer.MAX_VALUE, -2, -1, 15, 16, 25, 26, 31, 50, 51};
    private static final Expect EXPECT = new Expect();

    public static void main(String[] args) throws ReflectiveOperationException {
        sameFace();
        nothingElseIsSeen();
        for (int seed = 0; seed < 400; seed++) {
            throwsWhatItTells(new Random(seed));
        }
        EXPECT.end();
    }

    private static String tell(Method m) {
        List<String> kinds = new ArrayList<>();
        for (Class<?> kind : m.getParameterTypes()) {
            kinds.add(kind.getName());
        }
        List<String> thrown = new ArrayList<>();
        for (Class<?> kind : m.getExceptionTypes()) {
            thrown.add(kind.getSimpleName());
        }
        return m.getReturnType() + " " + m.getName() + "(" + String.join(",", kinds) + ") " + String.join(",", thrown);
    }

    private static void sameFace() {
        TreeSet<String> due = new TreeSet<>(Arrays.asList(FACE));
        TreeSet<String> got = new TreeSet<>();
        for (Method m : WaferYard.class.getDeclaredMethods()) {
            if (!Modifier.isPrivate(m.getModifiers())) {
                got.add(tell(m));
                EXPECT.same("public and no more: " + m, Modifier.toString(m.getModifiers()).equals("public"), true);
            }
        }
        for (String one : due) {
            EXPECT.same("in the face: " + one, got.contains(one), true);
        }
        for (String one : got) {
            EXPECT.same("due in the face: " + one, due.contains(one), true);
        }
        EXPECT.same("final", Modifier.toString(WaferYard.class.getModifiers()).equals("public final"), true);
        EXPECT.same("above it", WaferYard.class.getSuperclass() == Object.class, true);
        EXPECT.same("interfaces", WaferYard.class.getInterfaces().length, 0);
    }

    private static void nothingElseIsSeen() {
        for (Field f : WaferYard.class.getDeclaredFields()) {
            EXPECT.same("private: " + f, Modifier.isPrivate(f.getModifiers()), true);
            boolean isConstant = Modifier.isFinal(f.getModifiers());
            EXPECT.same("no static state: " + f, !Modifier.isStatic(f.getModifiers()) || isConstant, true);
        }
        Constructor<?>[] all = WaferYard.class.getDeclaredConstructors();
        EXPECT.same("constructors", all.length, 1);
        EXPECT.same("its parameters", all[0].getParameterCount(), 0);
        TreeMap<String, Boolean> names = new TreeMap<>();
        for (Method m : WaferYard.class.getDeclaredMethods()) {
            Boolean before = names.put(m.getName(), true);
            EXPECT.same("a name of its own: " + m, before == null, true);
        }
    }

    private static Object any(Random random, Class<?> kind) {
        if (kind == boolean.class) {
            return random.nextBoolean();
        }
        if (kind == char.class) {
            return random.nextInt(9) == 0 ? (char) random.nextInt(65536) : "qspwl-stbed".charAt(random.nextInt(11));
        }
        return random.nextInt(6) == 0 ? WILD[random.nextInt(WILD.length)] : random.nextInt(5);
    }

    private static void throwsWhatItTells(Random random) throws ReflectiveOperationException {
        WaferYard x = new WaferYard();
        Yards.route(x, Yards.measured(0, 1), Yards.limited(0, 2, 3), Yards.layered(1, 1, 0), Yards.measured(0, 1));
        x.addTool(0, 2, 1, 9, 2, 6);
        x.addTool(1, 1, 0, 9, 2, -3);
        List<Method> face = new ArrayList<>();
        for (Method m : WaferYard.class.getDeclaredMethods()) {
            if (Modifier.isPublic(m.getModifiers())) {
                face.add(m);
            }
        }
        face.sort((one, other) -> one.getName().compareTo(other.getName()));
        for (int i = 0; i < 500; i++) {
            Method m = face.get(random.nextInt(face.size()));
            Object[] handed = new Object[m.getParameterCount()];
            for (int k = 0; k < handed.length; k++) {
                handed[k] = any(random, m.getParameterTypes()[k]);
            }
            throwsWhatItTells(m, x, handed);
        }
        EXPECT.same("sound", x.isSound(), true);
    }

    private static void throwsWhatItTells(Method m, WaferYard x, Object[] handed) throws IllegalAccessException {
        try {
            m.invoke(x, handed);
        } catch (InvocationTargetException e) {
            Class<?> thrown = e.getCause().getClass();
            // A message or another class tells that the machine threw it.
            boolean isTold = Arrays.asList(m.getExceptionTypes()).contains(thrown) && e.getCause().getMessage() == null;
            EXPECT.same(m.getName() + Arrays.toString(handed) + " threw " + e.getCause(), isTold, true);
        }
    }
}
