import java.lang.reflect.InvocationTargetException;
import java.lang.reflect.Method;
import java.util.ArrayList;
import java.util.List;
import java.util.Random;
import java.util.TreeMap;

/** Runs the same calls on the class and on PlainYard, and compares each answer and all that can be asked. */
public final class ModelTest {
    private static final int RUNS = 300;
    private static final int CALLS = 512;
    private static final TreeMap<String, Integer> SEEN = new TreeMap<>();
    private static final TreeMap<String, Method[]> METHODS = new TreeMap<>();

    private final Random random;
    private final WaferYard yard = new WaferYard();
    private final PlainYard plain = new PlainYard();
    private final List<String> told = new ArrayList<>();

    private ModelTest(long seed) {
        random = new Random(seed);
    }

    public static void main(String[] args) throws Exception {
        for (Method m : WaferYard.class.getDeclaredMethods()) {
            if (java.lang.reflect.Modifier.isPublic(m.getModifiers())) {
                METHODS.put(m.getName(), new Method[] {
                    m, PlainYard.class.getDeclaredMethod(m.getName(), m.getParameterTypes())});
            }
        }
        for (int seed = 0; seed < RUNS; seed++) {
            ModelTest test = new ModelTest(seed);
            if (!test.run()) {
                System.out.println("seed " + seed + ":");
                for (String line : test.told) {
                    System.out.println("  " + line);
                }
                System.exit(1);
            }
        }
        for (String must : new String[] {"cause o", "cause q", "cause e", "why t", "why w", "why k",
                "why q", "why d", "why g", "why -", "state d", "state m", "state x", "tool n", "tool r",
                "lot reworked", "excursions", "working while asked", "gap and batch"}) {
            if (SEEN.getOrDefault(must, 0) < 3) {
                System.out.println("the runs never come to: " + must);
                System.exit(1);
            }
        }
        System.out.println(RUNS + " runs alike; met " + SEEN);
    }

    private int upTo(int n) {
        return random.nextInt(n);
    }

    private boolean rarely(int n) {
        return random.nextInt(n) == 0;
    }

    private boolean run() throws Exception {
        int busy = upTo(3);
        int routes = 1 + upTo(3);
        int steps = 2 + upTo(11);
        for (int i = 0; i < routes; i++) {
            if (!both("addRoute")) return false;
        }
        for (int i = 0; i < steps * routes; i++) {
            if (!anyStep(busy)) return false;
        }
        for (int i = 0; i < 3 + upTo(4); i++) {
            if (!anyTool(busy)) return false;
        }
        if (!both("setRule", letters())) return false;
        for (int i = 0; i < 1 + upTo(14); i++) {
            if (!both("start", upTo(routes), 1 + upTo(25), upTo(10))) return false;
        }
        for (int i = told.size(); i < CALLS; i++) {
            if (!anyCall(busy)) return false;
            if (i % 4 == 0 && !sameAnswers()) return false;
        }
        return sameAnswers();
    }

    private boolean anyStep(int busy) throws Exception {
        boolean isMeasured = busy == 0 ? rarely(3) : !rarely(4);
        return both("addStep", rarely(40) ? upTo(5) - 1 : upTo(3), rarely(50) ? upTo(6) - 1 : upTo(busy + 1),
                rarely(50) ? upTo(12) - 1 : 1 + upTo(busy == 2 ? 9 : 3),
                rarely(3) ? rarely(9) ? upTo(33) - 1 : upTo(8) : 0,
                rarely(3) ? rarely(20) ? upTo(5) - 1 : upTo(3) : -1, isMeasured);
    }

    private boolean anyTool(int busy) throws Exception {
        return both("addTool", rarely(50) ? upTo(6) - 1 : upTo(busy + 1), rarely(50) ? upTo(6) - 1 : 1 + upTo(3),
                rarely(50) ? upTo(12) - 1 : upTo(4), rarely(40) ? upTo(53) - 1 : 4 + upTo(30),
                rarely(50) ? upTo(12) - 1 : 1 + upTo(9), rarely(50) ? upTo(21) - 10 : upTo(11) - 5);
    }

    private Object[] letters() {
        String signs = rarely(10) ? "qspwl-x" : "qspwl";
        Object[] four = new Object[4];
        StringBuilder left = new StringBuilder(signs);
        int length = upTo(5);
        for (int i = 0; i < 4; i++) {
            int at = upTo(left.length());
            four[i] = i < length ? left.charAt(at) : '-';
            if (i < length && !rarely(20)) left.deleteCharAt(at);
        }
        return four;
    }

    private int aLot() {
        return rarely(60) ? plain.lots.size() + upTo(2) : upTo(Math.max(1, plain.lots.size())) - (rarely(80) ? 1 : 0);
    }

    private int aTool() {
        return rarely(60) ? plain.tools.size() : upTo(Math.max(1, plain.tools.size())) - (rarely(80) ? 1 : 0);
    }

    private boolean anyCall(int busy) throws Exception {
        int kind = upTo(100);
        if (kind < 45) return both("pass", rarely(60) ? upTo(53) - 1 : 1 + upTo(rarely(9) ? 12 : 3));
        if (kind < 50) return both("hold", aLot());
        if (kind < 66) return both("release", aLot());
        if (kind < 70) return both("split", aLot(), rarely(20) ? upTo(28) - 1 : 1 + upTo(3));
        if (kind < 75) return both("merge", aLot(), aLot());
        if (kind < 77) return both("scrap", aLot(), rarely(9) ? upTo(28) - 1 : 1 + upTo(3));
        if (kind < 80) return both("start", upTo(3), 1 + upTo(25), upTo(10));
        if (kind < 81) return both("start", upTo(5) - 1, upTo(28) - 1, upTo(12) - 1);
        if (kind < 84) return both("setRule", letters());
        if (kind < 86) return both("askRest", aTool());
        if (kind < 89) {
            return both("setQualified", aTool(), upTo(3), upTo(12), !rarely(2));
        }
        if (kind < 94) return both("setRework", upTo(3), upTo(12), rarely(20) ? upTo(6) - 1 : upTo(4));
        if (kind < 95) return anyStep(busy);
        if (kind < 96) return anyTool(busy);
        if (kind < 97) return both("addRoute");
        return both("recordAt", aLot(), upTo(8) - 1, "stbedx".charAt(upTo(6)));
    }

    private static Object answer(Method m, Object of, Object[] args) throws Exception {
        try {
            return m.invoke(of, args);
        } catch (InvocationTargetException e) {
            return e.getCause().getClass().getName();
        }
    }

    private boolean both(String name, Object... args) throws Exception {
        Method[] two = METHODS.get(name);
        Object due = answer(two[1], plain, args);
        Object got = answer(two[0], yard, args);
        told.add(name + java.util.Arrays.toString(args) + " -> " + got);
        if (!due.equals(got)) {
            told.add("due is " + due);
            return false;
        }
        return true;
    }

    private boolean asked(String name, Object... args) throws Exception {
        Method[] two = METHODS.get(name);
        Object due = answer(two[1], plain, args);
        Object got = answer(two[0], yard, args);
        if (!due.equals(got)) {
            told.add(name + java.util.Arrays.toString(args) + " -> " + got + ", due is " + due);
            return false;
        }
        return true;
    }

    private static void see(String what) {
        SEEN.merge(what, 1, Integer::sum);
    }

    private boolean sameAnswers() throws Exception {
        boolean same = true;
        for (String name : new String[] {"tick", "excursions", "moves", "workingShare", "meanTime", "isSound"}) {
            same &= asked(name);
        }
        for (int i = 0; i < plain.lots.size(); i++) {
            same &= sameLot(i);
        }
        for (int i = 0; i < plain.tools.size(); i++) {
            same &= sameTool(i);
        }
        if (plain.excursions > 0) see("excursions");
        return same;
    }

    private boolean sameLot(int i) throws Exception {
        boolean same = true;
        for (String name : new String[] {"lotState", "causeOf", "stepOf", "wafers", "limitOf", "toolOf", "parentOf",
                "records", "promised", "yieldOf"}) {
            same &= asked(name, i);
        }
        PlainYard.Lot lot = plain.lots.get(i);
        for (int k = 0; k < lot.recs.size(); k++) {
            for (char what : "stbed".toCharArray()) {
                same &= asked("recordAt", i, k, what);
            }
        }
        for (int k = 0; k < plain.tools.size(); k++) {
            same &= asked("why", k, i);
            see("why " + plain.why(k, i));
        }
        see("state " + lot.state);
        if (lot.state == 'h') see("cause " + lot.cause);
        if (lot.wasReworked) see("lot reworked");
        return same;
    }

    private boolean sameTool(int i) throws Exception {
        boolean same = true;
        for (String name : new String[] {"toolState", "setupOf", "driftOf", "useOf", "measures"}) {
            same &= asked(name, i);
        }
        for (int r = 0; r < plain.routes.size(); r++) {
            for (int s = 0; s < plain.routes.get(r).steps.size(); s++) {
                same &= asked("correction", i, r, s);
            }
        }
        PlainYard.Tool tool = plain.tools.get(i);
        see("tool " + plain.toolState(i));
        if (tool.isWorking && tool.needsRest) see("working while asked");
        if (tool.batch.size() > 1 && tool.setup.limit > 0) see("gap and batch");
        return same;
    }
}
