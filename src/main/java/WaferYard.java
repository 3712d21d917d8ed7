import java.util.NoSuchElementException;

/**
 * A yard of wafers: routes that come back to the same tools, batches and setups, limits of time
 * between steps that are begun only if they can be kept, tools that drift and are corrected by late
 * measures, charts that hold what went through, layers that stay with their tool, maintenance,
 * rework, splits and merges, rules by ranks, and a record of all that happened, by which it is
 * checked.
 */
public final class WaferYard {
    private static final int MAX_ROUTES = 3;
    private static final int MAX_STEPS = 12;
    private static final int MAX_TOOLS = 6;
    private static final int MAX_LOTS = 16;
    private static final int MAX_LETTERS = 4;
    private static final int MAX_KIND = 3;
    private static final int MAX_STEP_TICKS = 9;
    private static final int MAX_LIMIT = 30;
    private static final int MAX_LAYER = 2;
    private static final int MAX_BACK = 3;
    private static final int MAX_CAPACITY = 3;
    private static final int MAX_PATIENCE = 9;
    private static final int MAX_USE = 50;
    private static final int MAX_REST = 9;
    private static final int MAX_SHIFT = 9;
    private static final int MAX_WAFERS = 25;
    private static final int MAX_PRIORITY = 9;
    private static final int MAX_PASS = 50;
    private static final int LAST_TICK = 5000;

    /** A route has a place for each step and one for its end. */
    private static final int ROUTE_PLACES = MAX_STEPS + 1;
    private static final int ALL_PLACES = MAX_ROUTES * ROUTE_PLACES;
    /** A lot goes through its route once and is reworked once at most. */
    private static final int MAX_RECORDS = MAX_STEPS + MAX_BACK;
    /** Each batch that ends is in the record of one lot at least. */
    private static final int MAX_MEASURES = MAX_LOTS * MAX_RECORDS;

    private static final int SETUP_TICKS = 2;
    private static final int MEASURE_DELAY = 3;
    private static final int REWORK_ABOVE = 5;
    private static final int EXCURSION_ABOVE = 10;
    private static final int TREND_LENGTH = 4;
    private static final int FULL_YIELD = 100;
    private static final int SETUP_ROUTE_FACTOR = 100;
    private static final int NONE = -1;
    /** Later than each limit can be. */
    private static final int NEVER = LAST_TICK + MAX_LIMIT + 1;

    private static final char WAITS = 'w';
    private static final char IN_TOOL = 't';
    private static final char HELD = 'h';
    private static final char DONE = 'd';
    private static final char SCRAPPED = 'x';
    private static final char MERGED = 'm';

    private static final char BY_CALL = 'o';
    private static final char BY_LIMIT = 'q';
    private static final char BY_EXCURSION = 'e';

    private static final char IDLE = 'i';
    private static final char WORKS = 'p';
    private static final char RESTS = 'r';
    private static final char NEEDS_REST = 'n';

    /** What may excuse a late beginning, as bits, since the step ahead ended. */
    private static final int BETWEEN_NOTHING = 0;
    private static final int BETWEEN_HELD = 1;
    private static final int BETWEEN_REWORKED = 2;

    private static final char FITS = '-';
    private static final char NO_LETTER = '-';

    private final Route[] routes = new Route[MAX_ROUTES];
    private int routeCount;
    private final Tool[] tools = new Tool[MAX_TOOLS];
    private int toolCount;
    private final Lot[] lots = new Lot[MAX_LOTS];
    private int lotCount;
    private final char[] rule = new char[MAX_LETTERS];
    private int ruleLength;
    private final MeasureLog log = new MeasureLog();
    /** The lots that fit the tool that begins, in the order of the rule. */
    private final LotList queue = new LotList();
    /** The lots that the tool that begins has taken so far; empty but in a beginning. */
    private final LotList batch = new LotList();
    private int now;
    private int excursionCount;
    private long movedWafers;
    private long workedTicks;

    public WaferYard() {
        for (int i = 0; i < routes.length; i++) {
            routes[i] = new Route(i * ROUTE_PLACES);
        }
        for (int i = 0; i < tools.length; i++) {
            tools[i] = new Tool(i);
        }
        for (int i = 0; i < lots.length; i++) {
            lots[i] = new Lot(i, routes[0]);
        }
    }

    // ---- routes and tools

    public int addRoute() throws IllegalStateException {
        if (routeCount >= MAX_ROUTES) {
            throw new IllegalStateException();
        }
        routeCount++;
        return routeCount - 1;
    }

    public int addStep(int route, int kind, int ticks, int limit, int layer, boolean isMeasured)
            throws IndexOutOfBoundsException, IllegalArgumentException, IllegalStateException {
        Route longer = findRoute(route);
        checkRange(kind, 0, MAX_KIND);
        checkRange(ticks, 1, MAX_STEP_TICKS);
        checkRange(limit, 0, MAX_LIMIT);
        checkRange(layer, NONE, MAX_LAYER);
        if (longer.length >= MAX_STEPS || longer.isStarted) {
            throw new IllegalStateException();
        }
        Step step = longer.steps[longer.length];
        step.kind = kind;
        step.ticks = ticks;
        step.limit = limit;
        step.layer = layer;
        step.isMeasured = isMeasured;
        longer.openGapTo(step);
        longer.length++;
        return longer.length;
    }

    public int setRework(int route, int step, int back)
            throws IndexOutOfBoundsException, IllegalArgumentException {
        Step reworked = findStep(route, step);
        checkRange(back, 0, MAX_BACK);
        int before = reworked.back;
        reworked.back = back;
        return before;
    }

    public int addTool(int kind, int capacity, int patience, int use, int rest, int shift)
            throws IllegalArgumentException, IllegalStateException {
        checkRange(kind, 0, MAX_KIND);
        checkRange(capacity, 1, MAX_CAPACITY);
        checkRange(patience, 0, MAX_PATIENCE);
        checkRange(use, 1, MAX_USE);
        checkRange(rest, 1, MAX_REST);
        checkRange(shift, -MAX_SHIFT, MAX_SHIFT);
        if (toolCount >= MAX_TOOLS) {
            throw new IllegalStateException();
        }
        Tool tool = tools[toolCount];
        tool.kind = kind;
        tool.capacity = capacity;
        tool.patience = patience;
        tool.mostUse = use;
        tool.restTicks = rest;
        tool.shift = shift;
        toolCount++;
        return toolCount - 1;
    }

    public boolean setQualified(int tool, int route, int step, boolean isQualified)
            throws IndexOutOfBoundsException, UnsupportedOperationException {
        Tool told = findTool(tool);
        Step of = findStep(route, step);
        if (of.kind != told.kind) {
            throw new UnsupportedOperationException();
        }
        boolean wasQualified = !told.isBarred[of.place];
        told.isBarred[of.place] = !isQualified;
        return wasQualified;
    }

    public int setRule(char a, char b, char c, char d) throws IllegalArgumentException {
        checkLetters(a, b, c, d);
        rule[0] = a;
        rule[1] = b;
        rule[2] = c;
        rule[3] = d;
        ruleLength = lettersAheadOfMinus();
        return ruleLength;
    }

    public boolean askRest(int tool) throws IndexOutOfBoundsException {
        Tool asked = findTool(tool);
        boolean neededNone = !asked.needsRest;
        asked.needsRest = true;
        return neededNone;
    }

    // ---- lots

    public int start(int route, int wafers, int priority)
            throws IndexOutOfBoundsException, IllegalArgumentException,
            UnsupportedOperationException, IllegalStateException {
        Route started = findRoute(route);
        checkRange(wafers, 1, MAX_WAFERS);
        checkRange(priority, 0, MAX_PRIORITY);
        if (started.length == 0) {
            throw new UnsupportedOperationException();
        }
        if (lotCount >= MAX_LOTS) {
            throw new IllegalStateException();
        }
        started.isStarted = true;
        Lot lot = lots[lotCount];
        lot.route = started;
        lot.wafers = wafers;
        lot.priority = priority;
        lot.startTick = now;
        lot.waitFor(0, now);
        lotCount++;
        return lot.number;
    }

    public int split(int lot, int wafers)
            throws IndexOutOfBoundsException, IllegalArgumentException,
            UnsupportedOperationException, IllegalStateException {
        Lot whole = findLot(lot);
        checkRange(wafers, 1, whole.wafers - 1);
        if (!whole.isAtHand()) {
            throw new UnsupportedOperationException();
        }
        if (lotCount >= MAX_LOTS) {
            throw new IllegalStateException();
        }
        Lot part = lots[lotCount];
        part.copyFrom(whole);
        part.parent = whole.number;
        part.wafers = wafers;
        whole.wafers -= wafers;
        lotCount++;
        return part.number;
    }

    public int merge(int lot, int other)
            throws IndexOutOfBoundsException, IllegalArgumentException,
            UnsupportedOperationException {
        Lot into = findLot(lot);
        Lot from = findLot(other);
        if (lot == other) {
            throw new IllegalArgumentException();
        }
        if (into.state != WAITS || from.state != WAITS || !waitAlike(into, from)
                || into.wafers + from.wafers > MAX_WAFERS) {
            throw new UnsupportedOperationException();
        }
        into.absorb(from);
        from.leave(MERGED);
        return into.wafers;
    }

    public int scrap(int lot, int wafers)
            throws IndexOutOfBoundsException, IllegalArgumentException,
            UnsupportedOperationException {
        Lot poor = findLot(lot);
        checkRange(wafers, 1, poor.wafers);
        if (!poor.isAtHand()) {
            throw new UnsupportedOperationException();
        }
        poor.wafers -= wafers;
        if (poor.wafers == 0) {
            poor.leave(SCRAPPED);
        }
        return poor.wafers;
    }

    public boolean hold(int lot) throws IndexOutOfBoundsException {
        Lot stopped = findLot(lot);
        boolean waited = stopped.state == WAITS;
        if (waited) {
            stopped.holdBy(BY_CALL);
        }
        return waited;
    }

    public boolean release(int lot) throws IndexOutOfBoundsException {
        Lot freed = findLot(lot);
        boolean wasHeld = freed.state == HELD;
        if (wasHeld) {
            freed.waitFor(freed.step, now);
        }
        return wasHeld;
    }

    public int pass(int ticks) throws IllegalArgumentException, IllegalStateException {
        checkRange(ticks, 1, MAX_PASS);
        if (now + ticks > LAST_TICK) {
            throw new IllegalStateException();
        }
        for (int i = 0; i < ticks; i++) {
            letTickGo();
        }
        return now;
    }

    // ---- what is asked

    public int tick() {
        return now;
    }

    public char lotState(int lot) throws IndexOutOfBoundsException {
        return findLot(lot).state;
    }

    public char causeOf(int lot) throws IndexOutOfBoundsException, NoSuchElementException {
        Lot asked = findLot(lot);
        if (asked.state != HELD) {
            throw new NoSuchElementException();
        }
        return asked.cause;
    }

    public int stepOf(int lot) throws IndexOutOfBoundsException {
        return findLot(lot).step;
    }

    public int wafers(int lot) throws IndexOutOfBoundsException {
        return findLot(lot).wafers;
    }

    public int limitOf(int lot) throws IndexOutOfBoundsException, NoSuchElementException {
        Lot asked = findLot(lot);
        if (asked.limit == NONE) {
            throw new NoSuchElementException();
        }
        return asked.limit;
    }

    public int toolOf(int lot) throws IndexOutOfBoundsException, NoSuchElementException {
        Lot asked = findLot(lot);
        if (asked.state != IN_TOOL) {
            throw new NoSuchElementException();
        }
        return asked.tool;
    }

    public int parentOf(int lot) throws IndexOutOfBoundsException {
        return findLot(lot).parent;
    }

    public int records(int lot) throws IndexOutOfBoundsException {
        return findLot(lot).history.length;
    }

    public int recordAt(int lot, int index, char what)
            throws IndexOutOfBoundsException, IllegalArgumentException {
        History history = findLot(lot).history;
        checkIndex(index, history.length);
        if (what == 's') {
            return history.steps[index];
        }
        if (what == 't') {
            return history.tools[index];
        }
        if (what == 'b') {
            return history.begins[index];
        }
        if (what == 'e') {
            return history.ends[index];
        }
        if (what == 'd') {
            return history.deviations[index];
        }
        throw new IllegalArgumentException();
    }

    public char toolState(int tool) throws IndexOutOfBoundsException {
        Tool asked = findTool(tool);
        if (asked.needsRest && asked.state != RESTS) {
            return NEEDS_REST;
        }
        return asked.state;
    }

    public int setupOf(int tool) throws IndexOutOfBoundsException, NoSuchElementException {
        Tool asked = findTool(tool);
        if (asked.setup == NONE) {
            throw new NoSuchElementException();
        }
        return asked.setup / ROUTE_PLACES * SETUP_ROUTE_FACTOR + asked.setup % ROUTE_PLACES;
    }

    public int driftOf(int tool) throws IndexOutOfBoundsException {
        return findTool(tool).drift;
    }

    public int useOf(int tool) throws IndexOutOfBoundsException {
        return findTool(tool).use;
    }

    public int correction(int tool, int route, int step) throws IndexOutOfBoundsException {
        Tool asked = findTool(tool);
        return asked.corrections[findStep(route, step).place];
    }

    public int measures(int tool) throws IndexOutOfBoundsException {
        return findTool(tool).measureCount;
    }

    public char why(int tool, int lot) throws IndexOutOfBoundsException {
        return misfit(findTool(tool), findLot(lot));
    }

    public int promised(int lot) throws IndexOutOfBoundsException, UnsupportedOperationException {
        Lot asked = findLot(lot);
        if (asked.state != WAITS && asked.state != IN_TOOL) {
            throw new UnsupportedOperationException();
        }
        return now + 2 * asked.ticksLeft();
    }

    public int yieldOf(int lot) throws IndexOutOfBoundsException, NoSuchElementException {
        Lot asked = findLot(lot);
        if (asked.state != DONE) {
            throw new NoSuchElementException();
        }
        return Math.max(0, FULL_YIELD - asked.history.allDeviation()) * asked.wafers;
    }

    public int excursions() {
        return excursionCount;
    }

    // ---- figures

    public long moves() {
        return movedWafers;
    }

    public float workingShare() throws ArithmeticException {
        if (toolCount == 0 || now == 0) {
            throw new ArithmeticException();
        }
        return (float) workedTicks / (float) (now * toolCount);
    }

    public double meanTime() throws ArithmeticException {
        long sum = 0;
        int count = 0;
        for (int i = 0; i < lotCount; i++) {
            Lot lot = lots[i];
            if (lot.state == DONE) {
                sum += lot.history.lastEnd() - lot.startTick;
                count++;
            }
        }
        if (count == 0) {
            throw new ArithmeticException();
        }
        return (double) sum / (double) count;
    }

    public boolean isSound() {
        for (int i = 0; i < lotCount; i++) {
            if (!isRecordSound(lots[i]) || overlapsWithAny(lots[i])) {
                return false;
            }
        }
        return true;
    }

    // ---- what is looked at before it is used

    private static void checkRange(int value, int least, int most) {
        if (value < least || value > most) {
            throw new IllegalArgumentException();
        }
    }

    private static void checkIndex(int index, int length) {
        if (index < 0 || index >= length) {
            throw new IndexOutOfBoundsException();
        }
    }

    private Route findRoute(int route) {
        checkIndex(route, routeCount);
        return routes[route];
    }

    private Step findStep(int route, int step) {
        Route found = findRoute(route);
        checkIndex(step, found.length);
        return found.steps[step];
    }

    private Tool findTool(int tool) {
        checkIndex(tool, toolCount);
        return tools[tool];
    }

    private Lot findLot(int lot) {
        checkIndex(lot, lotCount);
        return lots[lot];
    }

    private static void checkLetters(char a, char b, char c, char d) {
        if (!isLetter(a) || !isLetter(b) || !isLetter(c) || !isLetter(d)) {
            throw new IllegalArgumentException();
        }
        if (isBehindMinus(a, b) || isBehindMinus(b, c) || isBehindMinus(c, d)) {
            throw new IllegalArgumentException();
        }
        if (isTwice(a, b) || isTwice(a, c) || isTwice(a, d)
                || isTwice(b, c) || isTwice(b, d) || isTwice(c, d)) {
            throw new IllegalArgumentException();
        }
    }

    private static boolean isLetter(char sign) {
        return sign == NO_LETTER || sign == 'q' || sign == 's' || sign == 'p' || sign == 'w'
                || sign == 'l';
    }

    private static boolean isBehindMinus(char ahead, char behind) {
        return ahead == NO_LETTER && behind != NO_LETTER;
    }

    private static boolean isTwice(char one, char other) {
        return one != NO_LETTER && one == other;
    }

    private int lettersAheadOfMinus() {
        int length = 0;
        while (length < rule.length && rule[length] != NO_LETTER) {
            length++;
        }
        return length;
    }

    // ---- a tick

    private void letTickGo() {
        for (int i = 0; i < toolCount; i++) {
            endWork(tools[i]);
        }
        for (int i = 0; i < toolCount; i++) {
            endRest(tools[i]);
        }
        takeMeasures();
        for (int i = 0; i < lotCount; i++) {
            holdIfLate(lots[i]);
        }
        for (int i = 0; i < toolCount; i++) {
            begin(tools[i]);
        }
        now++;
    }

    private void endWork(Tool tool) {
        if (tool.state != WORKS || tool.until != now) {
            return;
        }
        int size = 0;
        for (int i = 0; i < lotCount; i++) {
            Lot lot = lots[i];
            if (lot.state == IN_TOOL && lot.tool == tool.number) {
                if (size == 0) {
                    logMeasure(lot, tool);
                }
                endStep(lot, tool);
                size++;
            }
        }
        tool.state = IDLE;
        tool.use += size;
        tool.drift += tool.shift;
        workedTicks += tool.until - tool.begin;
    }

    private void logMeasure(Lot lot, Tool tool) {
        if (lot.at.isMeasured) {
            log.add(lot, tool.number, now, tool.deviationAt(lot.at));
        }
    }

    private void endStep(Lot lot, Tool tool) {
        Step step = lot.at;
        lot.history.add(lot, tool, tool.deviationAt(step));
        movedWafers += lot.wafers;
        lot.between = BETWEEN_NOTHING;
        lot.waitFor(lot.step + 1, now);
        if (lot.step >= lot.route.length) {
            lot.state = DONE;
        } else if (step.limit > 0) {
            lot.limit = now + step.limit;
        }
    }

    private void endRest(Tool tool) {
        if (tool.state == RESTS && tool.until == now) {
            tool.renew();
        }
    }

    private void takeMeasures() {
        for (int i = log.firstOpen; i < log.length; i++) {
            if (log.ends[i] + MEASURE_DELAY > now) {
                return;
            }
            takeMeasure(i);
            log.firstOpen = i + 1;
        }
    }

    private void takeMeasure(int measure) {
        Tool tool = tools[log.tools[measure]];
        Lot lot = lots[log.lots[measure]];
        Step step = lot.route.stepAt(log.steps[measure]);
        int deviation = log.deviations[measure];
        tool.corrections[step.place] -= halfOf(deviation);
        tool.measureCount++;
        tool.follow(deviation);
        if (Math.abs(deviation) > EXCURSION_ABOVE) {
            excursionCount++;
            tool.needsRest = true;
            holdSinceGoodMeasure(tool, lot.route, log.steps[measure], tool.goodEnds[step.place]);
        } else {
            tool.goodEnds[step.place] = log.ends[measure];
            if (Math.abs(deviation) > REWORK_ABOVE) {
                rework(lot, log.steps[measure], step.back);
            }
        }
        if (Math.abs(tool.trend) >= TREND_LENGTH) {
            tool.needsRest = true;
        }
    }

    /** The nearest whole number to the half, the even one of two. */
    private static int halfOf(int amount) {
        int below = amount >> 1;
        boolean isHalfOver = (amount & 1) != 0;
        boolean isOdd = (below & 1) != 0;
        return isHalfOver && isOdd ? below + 1 : below;
    }

    private void holdSinceGoodMeasure(Tool tool, Route route, int step, int goodEnd) {
        for (int i = 0; i < lotCount; i++) {
            Lot lot = lots[i];
            if (lot.state == WAITS && lot.route == route
                    && lot.history.hasEndAfter(goodEnd, step, tool.number)) {
                lot.holdBy(BY_EXCURSION);
            }
        }
    }

    private void rework(Lot lot, int step, int back) {
        if (back == 0 || lot.state != WAITS || lot.step != step + 1 || lot.isReworked) {
            return;
        }
        lot.isReworked = true;
        lot.between |= BETWEEN_REWORKED;
        lot.limit = NONE;
        lot.waitFor(Math.max(0, lot.step - back), now);
    }

    private void holdIfLate(Lot lot) {
        if (lot.state == WAITS && lot.limit != NONE && lot.limit < now) {
            lot.holdBy(BY_LIMIT);
            lot.limit = NONE;
        }
    }

    private void begin(Tool tool) {
        if (tool.state != IDLE) {
            return;
        }
        if (tool.needsRest || tool.use >= tool.mostUse) {
            tool.state = RESTS;
            tool.until = now + tool.restTicks;
            return;
        }
        queueFitting(tool);
        takeBatch(tool);
        if (batch.size > 0 && (batch.size >= tool.capacity || hasPatienceEnded(tool))) {
            beginWork(tool);
        }
        batch.size = 0;
    }

    private void queueFitting(Tool tool) {
        queue.size = 0;
        for (int i = 0; i < lotCount; i++) {
            if (misfit(tool, lots[i]) == FITS) {
                int place = queue.size;
                while (place > 0 && isAhead(lots[i], lots[queue.numbers[place - 1]], tool)) {
                    place--;
                }
                queue.insert(place, i);
            }
        }
    }

    private void takeBatch(Tool tool) {
        batch.size = 0;
        for (int i = 0; i < queue.size && batch.size < tool.capacity; i++) {
            Lot first = lots[queue.numbers[0]];
            Lot lot = lots[queue.numbers[i]];
            if (waitAlike(first, lot) && misfit(tool, lot) == FITS) {
                batch.insert(batch.size, lot.number);
            }
        }
    }

    private boolean hasPatienceEnded(Tool tool) {
        for (int i = 0; i < batch.size; i++) {
            if (now - lots[batch.numbers[i]].since >= tool.patience) {
                return true;
            }
        }
        return false;
    }

    private void beginWork(Tool tool) {
        Step step = lots[batch.numbers[0]].at;
        int setupTicks = tool.setup == step.place ? 0 : SETUP_TICKS;
        tool.state = WORKS;
        tool.begin = now;
        tool.until = now + step.ticks + setupTicks;
        tool.setup = step.place;
        for (int i = 0; i < batch.size; i++) {
            Lot lot = lots[batch.numbers[i]];
            lot.state = IN_TOOL;
            lot.tool = tool.number;
            lot.limit = NONE;
        }
    }

    // ---- fitting

    /** The first reason for which the lot does not fit beside the batch that is taken. */
    private char misfit(Tool tool, Lot lot) {
        if (tool.state != IDLE || tool.needsRest) {
            return 't';
        }
        if (lot.state != WAITS) {
            return 'w';
        }
        Step step = lot.at;
        if (step.kind != tool.kind) {
            return 'k';
        }
        if (tool.isBarred[step.place]) {
            return 'q';
        }
        int bound = step.layer == NONE ? NONE : boundTool(lot, step);
        if (bound != NONE && bound != tool.number) {
            return 'd';
        }
        if (step.gapKind != NONE
                && lotsInGapWith(lot, step.gapKind) > roomFor(lot.route.stepAt(lot.step + 1))) {
            return 'g';
        }
        return FITS;
    }

    /** The tool to which the layer of the step binds the lot. */
    private int boundTool(Lot lot, Step step) {
        for (int i = lot.history.length - 1; i >= 0; i--) {
            Step had = lot.route.stepAt(lot.history.steps[i]);
            if (had.layer == step.layer && had.kind == step.kind) {
                return lot.history.tools[i];
            }
        }
        return NONE;
    }

    /** The lots in the gap, this one and the batch that is taken included. */
    private int lotsInGapWith(Lot lot, int kind) {
        int count = 0;
        for (int i = 0; i < lotCount; i++) {
            Lot other = lots[i];
            boolean comes = other.state == IN_TOOL && other.at.gapKind == kind;
            boolean isThere = other.state == WAITS && other.limit != NONE && other.at.kind == kind;
            if (i == lot.number || batch.has(i) || comes || isThere) {
                count++;
            }
        }
        return count;
    }

    private int roomFor(Step next) {
        int room = 0;
        for (int i = 0; i < toolCount; i++) {
            Tool tool = tools[i];
            if (tool.kind == next.kind && tool.state != RESTS && !tool.needsRest
                    && !tool.isBarred[next.place]) {
                room += tool.capacity;
            }
        }
        return room;
    }

    private static boolean waitAlike(Lot one, Lot other) {
        return one.route == other.route && one.step == other.step;
    }

    // ---- the rule

    private boolean isAhead(Lot one, Lot other, Tool tool) {
        for (int i = 0; i < ruleLength; i++) {
            int order = compareBy(rule[i], one, other, tool);
            if (order != 0) {
                return order < 0;
            }
        }
        return one.number < other.number;
    }

    private int compareBy(char letter, Lot one, Lot other, Tool tool) {
        if (letter == 'q') {
            return Integer.compare(one.limitOrLast(), other.limitOrLast());
        }
        if (letter == 's') {
            int oneRank = one.at.place == tool.setup ? 0 : 1;
            int otherRank = other.at.place == tool.setup ? 0 : 1;
            return Integer.compare(oneRank, otherRank);
        }
        if (letter == 'p') {
            return Integer.compare(other.priority, one.priority);
        }
        if (letter == 'w') {
            return Integer.compare(one.since, other.since);
        }
        return Integer.compare(one.ticksLeft(), other.ticksLeft());
    }

    // ---- soundness

    private boolean isRecordSound(Lot lot) {
        History history = lot.history;
        for (int i = 0; i < history.length; i++) {
            if (!isEntrySound(lot, i) || !followsSoundly(lot, i)) {
                return false;
            }
        }
        return true;
    }

    private boolean isEntrySound(Lot lot, int entry) {
        History history = lot.history;
        int step = history.steps[entry];
        int tool = history.tools[entry];
        if (step < 0 || step >= lot.route.length || tool < 0 || tool >= toolCount) {
            return false;
        }
        return tools[tool].kind == lot.route.stepAt(step).kind
                && history.begins[entry] <= history.ends[entry];
    }

    private boolean followsSoundly(Lot lot, int entry) {
        History history = lot.history;
        int step = history.steps[entry];
        if (entry == 0) {
            return step == 0;
        }
        int ahead = history.steps[entry - 1];
        int endAhead = history.ends[entry - 1];
        int begin = history.begins[entry];
        int between = history.betweens[entry];
        boolean isReworked = (between & BETWEEN_REWORKED) != 0;
        if (begin < endAhead || (isReworked ? step > ahead : step != ahead + 1)) {
            return false;
        }
        int limit = lot.route.stepAt(ahead).limit;
        return limit == 0 || between != BETWEEN_NOTHING || begin <= endAhead + limit;
    }

    private boolean overlapsWithAny(Lot lot) {
        for (int i = 0; i < lot.number; i++) {
            for (int k = 0; k < lot.history.length; k++) {
                if (overlapsWith(lot, k, lots[i])) {
                    return true;
                }
            }
        }
        return false;
    }

    private static boolean overlapsWith(Lot lot, int entry, Lot other) {
        History one = lot.history;
        History two = other.history;
        for (int i = 0; i < two.length; i++) {
            if (one.tools[entry] == two.tools[i]
                    && one.begins[entry] < two.ends[i] && two.begins[i] < one.ends[entry]
                    && !isOneBatch(lot, entry, other, i)) {
                return true;
            }
        }
        return false;
    }

    private static boolean isOneBatch(Lot lot, int entry, Lot other, int otherEntry) {
        History one = lot.history;
        History two = other.history;
        return lot.route == other.route
                && one.steps[entry] == two.steps[otherEntry]
                && one.begins[entry] == two.begins[otherEntry]
                && one.ends[entry] == two.ends[otherEntry];
    }

    private static final class Step {
        /** Its place among the steps of all routes, for the rows of the tools. */
        final int place;
        int kind;
        int ticks;
        int limit;
        int layer;
        int back;
        boolean isMeasured;
        /** The kind of the next step if there is one and this one has a limit. */
        int gapKind = NONE;

        Step(int place) {
            this.place = place;
        }
    }

    private static final class Route {
        final Step[] steps = new Step[MAX_STEPS];
        /** Stands behind the last step: no tool is of its kind, and it takes no ticks. */
        final Step end;
        int length;
        boolean isStarted;

        Route(int firstPlace) {
            for (int i = 0; i < steps.length; i++) {
                steps[i] = new Step(firstPlace + i);
            }
            end = new Step(firstPlace + steps.length);
            end.kind = NONE;
        }

        Step stepAt(int step) {
            return step >= 0 && step < length ? steps[step] : end;
        }

        void openGapTo(Step next) {
            if (length > 0 && length < MAX_STEPS && steps[length - 1].limit > 0) {
                steps[length - 1].gapKind = next.kind;
            }
        }
    }

    private static final class Tool {
        final int number;
        int kind;
        int capacity;
        int patience;
        int mostUse;
        int restTicks;
        int shift;
        char state = IDLE;
        boolean needsRest;
        int begin;
        int until;
        /** The place of a step, or NONE. */
        int setup = NONE;
        int drift;
        int use;
        int measureCount;
        /** How many measures since the last rest, up to the latest, are above 0, or below as a negative. */
        int trend;
        final int[] corrections = new int[ALL_PLACES];
        /** The end of the batch of the latest good measure; no batch ends in tick 0. */
        final int[] goodEnds = new int[ALL_PLACES];
        /** Barred and not qualified, so that steps that come later are qualified at first. */
        final boolean[] isBarred = new boolean[ALL_PLACES];

        Tool(int number) {
            this.number = number;
        }

        int deviationAt(Step step) {
            return drift + corrections[step.place];
        }

        void follow(int deviation) {
            if (deviation > 0) {
                trend = Math.max(trend, 0) + 1;
            } else if (deviation < 0) {
                trend = Math.min(trend, 0) - 1;
            } else {
                trend = 0;
            }
        }

        void renew() {
            state = IDLE;
            needsRest = false;
            drift = 0;
            use = 0;
            setup = NONE;
            trend = 0;
            for (int i = 0; i < corrections.length; i++) {
                corrections[i] = 0;
            }
        }
    }

    private static final class Lot {
        final int number;
        Route route;
        int wafers;
        int priority;
        int startTick;
        int step;
        /** The step of this number; one that is done is at the end of its route. */
        Step at;
        int since;
        int limit = NONE;
        char state = WAITS;
        char cause;
        int tool = NONE;
        int parent = NONE;
        boolean isReworked;
        int between;
        final History history = new History();

        Lot(int number, Route route) {
            this.number = number;
            this.route = route;
            at = route.end;
        }

        /** Whether calls may take wafers from it. */
        boolean isAtHand() {
            return state == WAITS || state == HELD;
        }

        void waitFor(int nextStep, int tick) {
            state = WAITS;
            step = nextStep;
            at = route.stepAt(nextStep);
            since = tick;
        }

        void holdBy(char why) {
            state = HELD;
            cause = why;
            between |= BETWEEN_HELD;
        }

        void leave(char how) {
            state = how;
            wafers = 0;
            limit = NONE;
        }

        int ticksLeft() {
            int sum = 0;
            for (int i = route.length - 1; i >= step && i >= 0; i--) {
                sum += route.steps[i].ticks;
            }
            return sum;
        }

        int limitOrLast() {
            return limit == NONE ? NEVER : limit;
        }

        void absorb(Lot other) {
            wafers += other.wafers;
            if (other.limitOrLast() < limitOrLast()) {
                limit = other.limit;
            }
            priority = Math.max(priority, other.priority);
            since = Math.min(since, other.since);
        }

        void copyFrom(Lot other) {
            route = other.route;
            priority = other.priority;
            startTick = other.startTick;
            step = other.step;
            at = other.at;
            since = other.since;
            limit = other.limit;
            state = other.state;
            cause = other.cause;
            isReworked = other.isReworked;
            between = other.between;
            history.copyFrom(other.history);
        }
    }

    /** The steps that a lot ended, a row for each thing that is told of them. */
    private static final class History {
        int length;
        final int[] steps = new int[MAX_RECORDS];
        final int[] tools = new int[MAX_RECORDS];
        final int[] begins = new int[MAX_RECORDS];
        final int[] ends = new int[MAX_RECORDS];
        final int[] deviations = new int[MAX_RECORDS];
        /** What was between the end ahead and this beginning. */
        final int[] betweens = new int[MAX_RECORDS];

        void add(Lot lot, Tool tool, int deviation) {
            if (length >= MAX_RECORDS) {
                return;
            }
            steps[length] = lot.step;
            tools[length] = tool.number;
            begins[length] = tool.begin;
            ends[length] = tool.until;
            deviations[length] = deviation;
            betweens[length] = lot.between;
            length++;
        }

        void copyFrom(History other) {
            length = other.length;
            System.arraycopy(other.steps, 0, steps, 0, length);
            System.arraycopy(other.tools, 0, tools, 0, length);
            System.arraycopy(other.begins, 0, begins, 0, length);
            System.arraycopy(other.ends, 0, ends, 0, length);
            System.arraycopy(other.deviations, 0, deviations, 0, length);
            System.arraycopy(other.betweens, 0, betweens, 0, length);
        }

        boolean hasEndAfter(int tick, int step, int tool) {
            for (int i = 0; i < length; i++) {
                if (steps[i] == step && tools[i] == tool && ends[i] > tick) {
                    return true;
                }
            }
            return false;
        }

        int lastEnd() {
            return length == 0 ? 0 : ends[length - 1];
        }

        int allDeviation() {
            int sum = 0;
            for (int i = 0; i < length; i++) {
                sum += Math.abs(deviations[i]);
            }
            return sum;
        }
    }

    /** All measures in the order of their ends; those before firstOpen came already. */
    private static final class MeasureLog {
        int length;
        int firstOpen;
        final int[] ends = new int[MAX_MEASURES];
        final int[] tools = new int[MAX_MEASURES];
        final int[] lots = new int[MAX_MEASURES];
        final int[] steps = new int[MAX_MEASURES];
        final int[] deviations = new int[MAX_MEASURES];

        void add(Lot lot, int tool, int end, int deviation) {
            if (length >= MAX_MEASURES) {
                return;
            }
            ends[length] = end;
            tools[length] = tool;
            lots[length] = lot.number;
            steps[length] = lot.step;
            deviations[length] = deviation;
            length++;
        }
    }

    private static final class LotList {
        int size;
        final int[] numbers = new int[MAX_LOTS];

        void insert(int place, int number) {
            if (size >= MAX_LOTS || place < 0 || place > size) {
                return;
            }
            System.arraycopy(numbers, place, numbers, place + 1, size - place);
            numbers[place] = number;
            size++;
        }

        boolean has(int number) {
            for (int i = 0; i < size; i++) {
                if (numbers[i] == number) {
                    return true;
                }
            }
            return false;
        }
    }
}
