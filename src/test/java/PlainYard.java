import java.util.ArrayList;
import java.util.Comparator;
import java.util.HashMap;
import java.util.List;
import java.util.Map;
import java.util.NoSuchElementException;
import java.util.TreeSet;

/**
 * The document told once more with lists, maps and sorted sets, slowly and from whole logs, so that
 * ModelTest can compare the class with it.
 */
public final class PlainYard {
    static final class Step {
        int kind, ticks, limit, layer, back, number;
        boolean isMeasured;
    }

    static final class Route {
        final List<Step> steps = new ArrayList<>();
        boolean isStarted;
    }

    static final class Tool {
        int number, kind, capacity, patience, maxUse, rest, shift;
        boolean isWorking, isResting, needsRest;
        int begin, until, drift, use, allMeasures;
        Step setup;
        int setupCode;
        final Map<Step, Integer> corrections = new HashMap<>();
        final TreeSet<Integer> barred = new TreeSet<>();
        List<Integer> sinceRest = new ArrayList<>();
        final List<Object[]> goodMeasures = new ArrayList<>();
        List<Lot> batch = new ArrayList<>();
    }

    static final class Rec {
        Step step;
        Tool tool;
        int begin, end, deviation;
    }

    static final class Lot {
        int number, routeNumber, wafers, priority, step, since, parent = -1, started;
        Integer limit;
        char state = 'w', cause;
        Tool tool;
        boolean wasReworked;
        List<Rec> recs = new ArrayList<>();
        Map<String, Tool> layerTools = new HashMap<>();
    }

    static final class Measure {
        int due, end, deviation;
        Tool tool;
        Lot lot;
        Step step;
        int route;
    }

    final List<Route> routes = new ArrayList<>();
    final List<Tool> tools = new ArrayList<>();
    final List<Lot> lots = new ArrayList<>();
    final List<Measure> open = new ArrayList<>();
    final List<int[]> works = new ArrayList<>();
    String rule = "";
    int tick, excursions;
    long moves;

    Route r(int i) {
        if (i < 0 || i >= routes.size()) throw new IndexOutOfBoundsException();
        return routes.get(i);
    }

    Step s(int i, int k) {
        if (k < 0 || k >= r(i).steps.size()) throw new IndexOutOfBoundsException();
        return r(i).steps.get(k);
    }

    Tool t(int i) {
        if (i < 0 || i >= tools.size()) throw new IndexOutOfBoundsException();
        return tools.get(i);
    }

    Lot l(int i) {
        if (i < 0 || i >= lots.size()) throw new IndexOutOfBoundsException();
        return lots.get(i);
    }

    static void in(long v, long a, long b) {
        if (v < a || v > b) throw new IllegalArgumentException();
    }

    public int addRoute() {
        if (routes.size() == 3) throw new IllegalStateException();
        routes.add(new Route());
        return routes.size() - 1;
    }

    public int addStep(int route, int kind, int ticks, int limit, int layer, boolean isMeasured) {
        Route r = r(route);
        in(kind, 0, 3);
        in(ticks, 1, 9);
        in(limit, 0, 30);
        in(layer, -1, 2);
        if (r.steps.size() == 12 || r.isStarted) throw new IllegalStateException();
        Step s = new Step();
        s.kind = kind;
        s.ticks = ticks;
        s.limit = limit;
        s.layer = layer;
        s.isMeasured = isMeasured;
        s.number = r.steps.size();
        r.steps.add(s);
        return r.steps.size();
    }

    public int setRework(int route, int step, int back) {
        Step s = s(route, step);
        in(back, 0, 3);
        int old = s.back;
        s.back = back;
        return old;
    }

    public int addTool(int kind, int capacity, int patience, int use, int rest, int shift) {
        in(kind, 0, 3);
        in(capacity, 1, 3);
        in(patience, 0, 9);
        in(use, 1, 50);
        in(rest, 1, 9);
        in(shift, -9, 9);
        if (tools.size() == 6) throw new IllegalStateException();
        Tool t = new Tool();
        t.number = tools.size();
        t.kind = kind;
        t.capacity = capacity;
        t.patience = patience;
        t.maxUse = use;
        t.rest = rest;
        t.shift = shift;
        tools.add(t);
        return t.number;
    }

    public boolean setQualified(int tool, int route, int step, boolean isQualified) {
        Tool t = t(tool);
        Step s = s(route, step);
        if (s.kind != t.kind) throw new UnsupportedOperationException();
        int code = route * 100 + step;
        return isQualified ? !t.barred.remove(code) : t.barred.add(code);
    }

    public int setRule(char a, char b, char c, char d) {
        String all = "" + a + b + c + d;
        int minus = all.indexOf('-');
        String letters = minus < 0 ? all : all.substring(0, minus);
        String rest = minus < 0 ? "" : all.substring(minus);
        if (!rest.equals("-".repeat(rest.length()))) throw new IllegalArgumentException();
        for (char x : letters.toCharArray()) {
            if ("qspwl".indexOf(x) < 0 || letters.indexOf(x) != letters.lastIndexOf(x)) {
                throw new IllegalArgumentException();
            }
        }
        rule = letters;
        return letters.length();
    }

    public boolean askRest(int tool) {
        Tool t = t(tool);
        boolean was = t.needsRest;
        t.needsRest = true;
        return !was;
    }

    public int start(int route, int wafers, int priority) {
        Route r = r(route);
        in(wafers, 1, 25);
        in(priority, 0, 9);
        if (r.steps.isEmpty()) throw new UnsupportedOperationException();
        if (lots.size() == 16) throw new IllegalStateException();
        r.isStarted = true;
        Lot l = new Lot();
        l.number = lots.size();
        l.routeNumber = route;
        l.wafers = wafers;
        l.priority = priority;
        l.started = tick;
        l.since = tick;
        lots.add(l);
        return l.number;
    }

    public int split(int lot, int wafers) {
        Lot l = l(lot);
        if (wafers < 1 || (long) l.wafers - wafers < 1) throw new IllegalArgumentException();
        if (l.state != 'w' && l.state != 'h') throw new UnsupportedOperationException();
        if (lots.size() == 16) throw new IllegalStateException();
        Lot n = new Lot();
        n.number = lots.size();
        n.routeNumber = l.routeNumber;
        n.priority = l.priority;
        n.step = l.step;
        n.since = l.since;
        n.parent = lot;
        n.started = l.started;
        n.limit = l.limit;
        n.state = l.state;
        n.cause = l.cause;
        n.wasReworked = l.wasReworked;
        n.recs = new ArrayList<>(l.recs);
        n.layerTools = new HashMap<>(l.layerTools);
        n.wafers = wafers;
        l.wafers -= wafers;
        lots.add(n);
        return n.number;
    }

    public int merge(int lot, int other) {
        Lot a = l(lot);
        Lot b = l(other);
        if (a == b) throw new IllegalArgumentException();
        if (a.state != 'w' || b.state != 'w') throw new UnsupportedOperationException();
        if (stepOfLot(a) != stepOfLot(b)) throw new UnsupportedOperationException();
        if (a.wafers + b.wafers > 25) throw new UnsupportedOperationException();
        a.wafers += b.wafers;
        if (a.limit == null) a.limit = b.limit;
        else if (b.limit != null && b.limit < a.limit) a.limit = b.limit;
        if (b.priority > a.priority) a.priority = b.priority;
        if (b.since < a.since) a.since = b.since;
        b.wafers = 0;
        b.state = 'm';
        b.limit = null;
        return a.wafers;
    }

    public int scrap(int lot, int wafers) {
        Lot l = l(lot);
        if (wafers < 1 || wafers > l.wafers) throw new IllegalArgumentException();
        if (l.state != 'w' && l.state != 'h') throw new UnsupportedOperationException();
        l.wafers -= wafers;
        if (l.wafers == 0) {
            l.state = 'x';
            l.limit = null;
        }
        return l.wafers;
    }

    public boolean hold(int lot) {
        Lot l = l(lot);
        if (l.state != 'w') return false;
        l.state = 'h';
        l.cause = 'o';
        return true;
    }

    public boolean release(int lot) {
        Lot l = l(lot);
        if (l.state != 'h') return false;
        l.state = 'w';
        l.since = tick;
        return true;
    }

    Step stepOfLot(Lot l) {
        return s(l.routeNumber, l.step);
    }

    Step nextOfLot(Lot l) {
        List<Step> steps = routes.get(l.routeNumber).steps;
        return l.step + 1 < steps.size() ? steps.get(l.step + 1) : null;
    }

    public int pass(int ticks) {
        in(ticks, 1, 50);
        if (tick + ticks > 5000) throw new IllegalStateException();
        for (int i = 0; i < ticks; i++) {
            goEnds();
            goRests();
            goMeasures();
            goLimits();
            goBeginnings();
            tick++;
        }
        return tick;
    }

    void goEnds() {
        for (Tool t : tools) {
            if (!t.isWorking || t.until != tick) continue;
            Step step = t.setup;
            int deviation = t.drift + t.corrections.getOrDefault(step, 0);
            Lot lowest = null;
            for (Lot l : t.batch) {
                if (lowest == null || l.number < lowest.number) lowest = l;
                Rec rec = new Rec();
                rec.step = step;
                rec.tool = t;
                rec.begin = t.begin;
                rec.end = tick;
                rec.deviation = deviation;
                l.recs.add(rec);
                if (step.layer >= 0) l.layerTools.put(step.layer + "/" + t.kind, t);
                moves += l.wafers;
                l.tool = null;
                l.since = tick;
                l.limit = null;
                Step next = nextOfLot(l);
                l.step++;
                l.state = next == null ? 'd' : 'w';
                if (next != null && step.limit != 0) l.limit = tick + step.limit;
            }
            works.add(new int[] {t.begin, tick});
            t.use += t.batch.size();
            t.drift += t.shift;
            t.isWorking = false;
            if (step.isMeasured) {
                Measure m = new Measure();
                m.due = tick + 3;
                m.end = tick;
                m.deviation = deviation;
                m.tool = t;
                m.lot = lowest;
                m.step = step;
                m.route = lowest.routeNumber;
                open.add(m);
            }
            t.batch = new ArrayList<>();
        }
    }

    void goRests() {
        for (Tool t : tools) {
            if (t.isResting && t.until == tick) {
                t.isResting = false;
                t.needsRest = false;
                t.drift = 0;
                t.use = 0;
                t.corrections.clear();
                t.setup = null;
                t.sinceRest = new ArrayList<>();
            }
        }
    }

    void goMeasures() {
        List<Measure> come = new ArrayList<>();
        for (Measure m : open) if (m.due == tick) come.add(m);
        open.removeAll(come);
        for (Measure m : come) {
            Tool t = m.tool;
            int half = (int) Math.rint(m.deviation / 2.0);
            t.corrections.put(m.step, t.corrections.getOrDefault(m.step, 0) - half);
            t.allMeasures++;
            t.sinceRest.add(m.deviation);
            if (m.deviation > 10 || m.deviation < -10) {
                excursions++;
                t.needsRest = true;
                int good = -1;
                for (Object[] g : t.goodMeasures) {
                    if (g[0] == m.step) good = Math.max(good, (Integer) g[1]);
                }
                for (Lot l : lots) {
                    if (l.state != 'w') continue;
                    boolean isHit = false;
                    for (Rec rec : l.recs) {
                        isHit |= rec.step == m.step && rec.tool == t && rec.end > good;
                    }
                    if (isHit) {
                        l.state = 'h';
                        l.cause = 'e';
                    }
                }
            } else {
                t.goodMeasures.add(new Object[] {m.step, m.end});
                boolean isFar = m.deviation > 5 || m.deviation < -5;
                Lot l = m.lot;
                if (isFar && m.step.back > 0 && l.state == 'w' && l.step == m.step.number + 1
                        && !l.wasReworked) {
                    l.wasReworked = true;
                    l.step = Math.max(0, l.step - m.step.back);
                    l.since = tick;
                    l.limit = null;
                }
            }
            int n = t.sinceRest.size();
            if (n >= 4) {
                List<Integer> four = t.sinceRest.subList(n - 4, n);
                boolean above = true;
                boolean below = true;
                for (int d : four) {
                    above &= d > 0;
                    below &= d < 0;
                }
                if (above || below) t.needsRest = true;
            }
        }
    }

    void goLimits() {
        for (Lot l : lots) {
            if (l.state == 'w' && l.limit != null && l.limit < tick) {
                l.state = 'h';
                l.cause = 'q';
                l.limit = null;
            }
        }
    }

    void goBeginnings() {
        for (Tool t : tools) {
            if (t.isWorking || t.isResting) continue;
            if (t.needsRest || t.use >= t.maxUse) {
                t.isResting = true;
                t.until = tick + t.rest;
                continue;
            }
            List<Lot> fitting = new ArrayList<>();
            for (Lot l : lots) if (fit(t, l, List.of()) == '-') fitting.add(l);
            fitting.sort(order(t));
            if (fitting.isEmpty()) continue;
            List<Lot> taken = new ArrayList<>();
            Lot first = fitting.get(0);
            taken.add(first);
            for (Lot l : fitting.subList(1, fitting.size())) {
                if (taken.size() == t.capacity) break;
                if (stepOfLot(l) == stepOfLot(first) && fit(t, l, taken) == '-') taken.add(l);
            }
            int longest = 0;
            for (Lot l : taken) longest = Math.max(longest, tick - l.since);
            if (taken.size() < t.capacity && longest < t.patience) continue;
            Step step = stepOfLot(first);
            t.isWorking = true;
            t.begin = tick;
            t.until = tick + step.ticks + (t.setup == step ? 0 : 2);
            t.setup = step;
            t.setupCode = first.routeNumber * 100 + first.step;
            t.batch = taken;
            for (Lot l : taken) {
                l.state = 't';
                l.tool = t;
                l.limit = null;
            }
        }
    }

    Comparator<Lot> order(Tool t) {
        Comparator<Lot> c = (a, b) -> 0;
        for (char x : rule.toCharArray()) {
            switch (x) {
                case 'q' -> c = c.thenComparing(l -> l.limit == null ? 1 : 0)
                        .thenComparing(l -> l.limit == null ? 0 : l.limit);
                case 's' -> c = c.thenComparing(l -> stepOfLot(l) == t.setup ? 0 : 1);
                case 'p' -> c = c.thenComparing(l -> -l.priority);
                case 'w' -> c = c.thenComparing(l -> l.since);
                default -> c = c.thenComparing(l -> left(l));
            }
        }
        return c.thenComparing(l -> l.number);
    }

    int left(Lot l) {
        List<Step> steps = routes.get(l.routeNumber).steps;
        return steps.subList(l.step, steps.size()).stream().mapToInt(s -> s.ticks).sum();
    }

    char fit(Tool t, Lot l, List<Lot> taken) {
        if (t.isWorking || t.isResting || t.needsRest) return 't';
        if (l.state != 'w') return 'w';
        Step step = stepOfLot(l);
        if (step.kind != t.kind) return 'k';
        if (t.barred.contains(l.routeNumber * 100 + l.step)) return 'q';
        Tool bound = l.layerTools.get(step.layer + "/" + t.kind);
        if (step.layer >= 0 && bound != null && bound != t) return 'd';
        Step next = nextOfLot(l);
        if (step.limit == 0 || next == null) return '-';
        TreeSet<Integer> gap = new TreeSet<>();
        gap.add(l.number);
        for (Lot o : taken) gap.add(o.number);
        for (Lot o : lots) {
            if (o.state == 't' && stepOfLot(o).limit != 0 && nextOfLot(o) != null
                    && nextOfLot(o).kind == next.kind) gap.add(o.number);
            if (o.state == 'w' && o.limit != null && stepOfLot(o).kind == next.kind) gap.add(o.number);
        }
        int room = 0;
        for (Tool o : tools) {
            if (o.kind == next.kind && !o.isResting && !o.needsRest
                    && !o.barred.contains(l.routeNumber * 100 + l.step + 1)) room += o.capacity;
        }
        return gap.size() > room ? 'g' : '-';
    }

    public int tick() {
        return tick;
    }

    public char lotState(int lot) {
        return l(lot).state;
    }

    public char causeOf(int lot) {
        if (l(lot).state != 'h') throw new NoSuchElementException();
        return l(lot).cause;
    }

    public int stepOf(int lot) {
        return l(lot).step;
    }

    public int wafers(int lot) {
        return l(lot).wafers;
    }

    public int limitOf(int lot) {
        if (l(lot).limit == null) throw new NoSuchElementException();
        return l(lot).limit;
    }

    public int toolOf(int lot) {
        if (l(lot).tool == null) throw new NoSuchElementException();
        return l(lot).tool.number;
    }

    public int parentOf(int lot) {
        return l(lot).parent;
    }

    public int records(int lot) {
        return l(lot).recs.size();
    }

    public int recordAt(int lot, int index, char what) {
        List<Rec> recs = l(lot).recs;
        if (index < 0 || index >= recs.size()) throw new IndexOutOfBoundsException();
        Rec rec = recs.get(index);
        return switch (what) {
            case 's' -> rec.step.number;
            case 't' -> rec.tool.number;
            case 'b' -> rec.begin;
            case 'e' -> rec.end;
            case 'd' -> rec.deviation;
            default -> throw new IllegalArgumentException();
        };
    }

    public char toolState(int tool) {
        Tool t = t(tool);
        return t.isResting ? 'r' : t.needsRest ? 'n' : t.isWorking ? 'p' : 'i';
    }

    public int setupOf(int tool) {
        if (t(tool).setup == null) throw new NoSuchElementException();
        return t(tool).setupCode;
    }

    public int driftOf(int tool) {
        return t(tool).drift;
    }

    public int useOf(int tool) {
        return t(tool).use;
    }

    public int correction(int tool, int route, int step) {
        Tool t = t(tool);
        return t.corrections.getOrDefault(s(route, step), 0);
    }

    public int measures(int tool) {
        return t(tool).allMeasures;
    }

    public char why(int tool, int lot) {
        Tool t = t(tool);
        return fit(t, l(lot), List.of());
    }

    public int promised(int lot) {
        Lot l = l(lot);
        if (l.state != 'w' && l.state != 't') throw new UnsupportedOperationException();
        return tick + 2 * left(l);
    }

    public int yieldOf(int lot) {
        Lot l = l(lot);
        if (l.state != 'd') throw new NoSuchElementException();
        int all = 100;
        for (Rec rec : l.recs) all -= Math.abs(rec.deviation);
        return Math.max(all, 0) * l.wafers;
    }

    public int excursions() {
        return excursions;
    }

    public long moves() {
        return moves;
    }

    public float workingShare() {
        if (tools.isEmpty() || tick == 0) throw new ArithmeticException();
        int sum = 0;
        for (int[] w : works) sum += w[1] - w[0];
        return (float) sum / (float) (tick * tools.size());
    }

    public double meanTime() {
        int sum = 0;
        int n = 0;
        for (Lot l : lots) {
            if (l.state != 'd') continue;
            sum += l.recs.get(l.recs.size() - 1).end - l.started;
            n++;
        }
        if (n == 0) throw new ArithmeticException();
        return (double) sum / (double) n;
    }

    public boolean isSound() {
        return true;
    }
}
