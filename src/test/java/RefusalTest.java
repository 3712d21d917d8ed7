import java.util.NoSuchElementException;

/**
 * "A method that throws an exception changes nothing. If several exceptions apply, the one that is
 * documented first is thrown." Of two yards that are alike one is asked for what is refused; from then
 * on both must answer alike.
 */
public final class RefusalTest {
    private static final Class<IndexOutOfBoundsException> INDEX = IndexOutOfBoundsException.class;
    private static final Class<IllegalArgumentException> ARGUMENT = IllegalArgumentException.class;
    private static final Class<IllegalStateException> STATE = IllegalStateException.class;
    private static final Class<UnsupportedOperationException> UNSUPPORTED = UnsupportedOperationException.class;
    private static final Class<NoSuchElementException> NONE = NoSuchElementException.class;
    private static final int[] NO_LOT_OPEN = {-1, 10, Integer.MIN_VALUE, Integer.MAX_VALUE};
    private static final int[] NO_LOT_FULL = {-1, 16, Integer.MIN_VALUE, Integer.MAX_VALUE};
    private static final int[] NO_TOOL_OPEN = {-1, 5, Integer.MIN_VALUE, Integer.MAX_VALUE};
    private static final int[] NO_TOOL_FULL = {-1, 6, Integer.MIN_VALUE, Integer.MAX_VALUE};
    private static final int[] NO_ROUTE_OPEN = {-1, 2, Integer.MIN_VALUE, Integer.MAX_VALUE};
    private static final int[] NO_ROUTE_FULL = {-1, 3, Integer.MIN_VALUE, Integer.MAX_VALUE};
    private static final int[] NO_STEP = {-1, 4, Integer.MIN_VALUE, Integer.MAX_VALUE};
    /** What each lot of a busy yard is: held by a limit, waits, done, held by an excursion, and so on. */
    private static final String STATES = "hwdhmdtxhw";
    private static final Expect EXPECT = new Expect();

    private interface Act {
        Object on(WaferYard yard);
    }

    public static void main(String[] args) {
        isBusy();
        promise2();
        promise3();
        promise3Order();
        promise4();
        promise5();
        promise5Order();
        promise6();
        promise7();
        promise8();
        promise9();
        promise9Order();
        promise10();
        promise10Order();
        promise11();
        promise11Order();
        promise12();
        promises13And14();
        promise15();
        lotsThatAreNot();
        toolsThatAreNot();
        askedForWhatIsNot();
        figuresOfNothing();
        askingChangesNothing();
        EXPECT.end();
    }

    /**
     * A yard with a lot in each state and a tool in each; its route 0 has steps and lots. If it is
     * full, it has 3 routes, of which the route 1 has 12 steps and the route 2 none, 6 tools and 16
     * lots; else 2 routes, of which the route 1 has no steps, 5 tools and 10 lots.
     */
    private static WaferYard busy(boolean isFull) {
        WaferYard x = new WaferYard();
        Yards.route(x, new int[] {0, 1, 9, 0, 1}, new int[] {1, 2, 4, -1, 1}, Yards.layered(0, 1, 0),
                Yards.layered(2, 2, 1));
        x.setRework(0, 0, 1);
        x.setRework(0, 1, 2);
        x.addTool(0, 2, 1, 30, 4, 4);
        x.addTool(0, 1, 0, 9, 3, -4);
        x.addTool(1, 2, 1, 20, 5, 3);
        x.addTool(2, 2, 0, 20, 5, 1);
        x.addTool(1, 1, 0, 2, 9, 2);
        x.setQualified(1, 0, 0, false);
        x.setRule('p', 'w', '-', '-');
        for (int i = 0; i < 7; i++) {
            x.start(0, 10 + i, i % 3);
        }
        Yards.passTo(x, 16);
        x.release(1);
        x.release(4);
        x.merge(1, 4);
        x.start(0, 5, 0);
        x.scrap(7, 5);
        x.start(0, 6, 1);
        x.hold(8);
        x.start(0, 25, 2);
        x.addRoute();
        x.askRest(4);
        if (isFull) {
            fill(x);
        }
        return x;
    }

    private static void fill(WaferYard x) {
        for (int i = 0; i < 12; i++) {
            x.addStep(1, i % 4, 1 + i % 3, 0, -1, false);
        }
        x.addRoute();
        x.addTool(3, 1, 0, 9, 1, 0);
        for (int i = 10; i < 16; i++) {
            x.start(0, 1, 0);
        }
    }

    private static void isBusy() {
        for (int kind = 0; kind < 2; kind++) {
            WaferYard x = busy(kind == 1);
            for (int lot = 0; lot < STATES.length(); lot++) {
                EXPECT.same("busy: state of lot " + lot, x.lotState(lot), STATES.charAt(lot));
            }
            EXPECT.same("busy: held by a limit", x.causeOf(0), 'q');
            EXPECT.same("busy: held by an excursion", x.causeOf(3), 'e');
            EXPECT.same("busy: held by a call", x.causeOf(8), 'o');
            EXPECT.same("busy: a tool works", x.toolState(0), 'p');
            EXPECT.same("busy: a tool is idle", x.toolState(2), 'i');
            EXPECT.same("busy: a tool needs a rest", x.toolState(4), 'n');
        }
    }

    private static void sameFromNowOn(String what, WaferYard touched, WaferYard other) {
        alike(what, touched, other);
        for (int lot = 0; lot < STATES.length(); lot++) {
            EXPECT.same(what + ": released " + lot, touched.release(lot), other.release(lot));
        }
        for (int ticks : new int[] {1, 1, 2, 7, 30}) {
            if (touched.tick() + ticks <= 5000) {
                touched.pass(ticks);
                other.pass(ticks);
                alike(what, touched, other);
            }
        }
        EXPECT.sameText(what + ": settings", Snapshot.settings(touched), Snapshot.settings(other));
    }

    private static void alike(String what, WaferYard touched, WaferYard other) {
        EXPECT.sameText(what + ": in tick " + other.tick(), Snapshot.of(touched), Snapshot.of(other));
    }

    private static void refused(String what, Class<? extends RuntimeException> due, boolean isFull, Act act) {
        WaferYard touched = busy(isFull);
        EXPECT.thrown(what, due, () -> act.on(touched));
        sameFromNowOn(what, touched, busy(isFull));
    }

    private static void refusedOpen(String what, Class<? extends RuntimeException> due, Act act) {
        refused(what + " (open)", due, false, act);
    }

    private static void refusedFull(String what, Class<? extends RuntimeException> due, Act act) {
        refused(what + " (full)", due, true, act);
    }

    private static void promise2() {
        refusedFull("2 there are 3 routes", STATE, x -> x.addRoute());
    }

    private static void promise3() {
        for (int route : NO_ROUTE_OPEN) {
            refusedOpen("3 route " + route, INDEX, x -> x.addStep(route, 0, 1, 0, -1, false));
        }
        int[][] wrong = wrongSteps();
        for (int[] w : wrong) {
            refusedOpen("3 out of range", ARGUMENT, x -> x.addStep(1, w[0], w[1], w[2], w[3], true));
        }
        refusedFull("3 it has 12 steps", STATE, x -> x.addStep(1, 0, 1, 0, -1, false));
        refusedOpen("3 a lot was started on it", STATE, x -> x.addStep(0, 0, 1, 0, -1, false));
    }

    /** Each number once below and once above its range, the others in theirs. */
    private static int[][] wrongSteps() {
        return new int[][] {{-1, 1, 0, -1}, {4, 1, 0, -1}, {0, 0, 0, -1}, {0, 10, 0, -1}, {0, 1, -1, -1},
            {0, 1, 31, -1}, {0, 1, 0, -2}, {0, 1, 0, 3},
            {Integer.MIN_VALUE, 1, 0, -1}, {0, Integer.MIN_VALUE, 0, -1}, {0, 1, Integer.MIN_VALUE, -1},
            {0, 1, 0, Integer.MIN_VALUE}, {Integer.MAX_VALUE, 1, 0, -1}, {0, Integer.MAX_VALUE, 0, -1},
            {0, 1, Integer.MAX_VALUE, -1}, {0, 1, 0, Integer.MAX_VALUE}};
    }

    private static void promise3Order() {
        for (int[] w : wrongSteps()) {
            refusedFull("3 no route ahead of range", INDEX, x -> x.addStep(3, w[0], w[1], w[2], w[3], true));
            refusedFull("3 range ahead of 12 steps", ARGUMENT, x -> x.addStep(1, w[0], w[1], w[2], w[3], true));
            refusedOpen("3 range ahead of a start", ARGUMENT, x -> x.addStep(0, w[0], w[1], w[2], w[3], true));
        }
    }

    private static void promise4() {
        for (int route : NO_ROUTE_FULL) {
            refusedFull("4 route " + route, INDEX, x -> x.setRework(route, 0, 1));
        }
        for (int step : NO_STEP) {
            refusedFull("4 step " + step, INDEX, x -> x.setRework(0, step, 1));
        }
        refusedFull("4 no step at all", INDEX, x -> x.setRework(2, 0, 1));
        for (int back : new int[] {-1, 4, Integer.MIN_VALUE, Integer.MAX_VALUE}) {
            refusedFull("4 back " + back, ARGUMENT, x -> x.setRework(0, 0, back));
            refusedFull("4 no route ahead of range", INDEX, x -> x.setRework(3, 0, back));
            refusedFull("4 no step ahead of range", INDEX, x -> x.setRework(0, 4, back));
        }
    }

    private static int[][] wrongTools() {
        int[] right = {0, 1, 0, 1, 1, 0};
        int[][] edges = {{-1, 4}, {0, 4}, {-1, 10}, {0, 51}, {0, 10}, {-10, 10}};
        int[][] wrong = new int[right.length * 4][];
        for (int i = 0; i < right.length; i++) {
            int[] values = {edges[i][0], edges[i][1], Integer.MIN_VALUE, Integer.MAX_VALUE};
            for (int k = 0; k < values.length; k++) {
                wrong[4 * i + k] = right.clone();
                wrong[4 * i + k][i] = values[k];
            }
        }
        return wrong;
    }

    private static Object addTool(WaferYard x, int[] t) {
        return x.addTool(t[0], t[1], t[2], t[3], t[4], t[5]);
    }

    private static void promise5() {
        for (int[] w : wrongTools()) {
            refusedOpen("5 out of range", ARGUMENT, x -> addTool(x, w));
        }
        refusedFull("5 there are 6 tools", STATE, x -> x.addTool(0, 1, 0, 1, 1, 0));
    }

    private static void promise5Order() {
        for (int[] w : wrongTools()) {
            refusedFull("5 range ahead of 6 tools", ARGUMENT, x -> addTool(x, w));
        }
    }

    private static void promise6() {
        for (int tool : NO_TOOL_OPEN) {
            refusedOpen("6 tool " + tool, INDEX, x -> x.setQualified(tool, 0, 0, false));
        }
        for (int route : NO_ROUTE_FULL) {
            refusedFull("6 route " + route, INDEX, x -> x.setQualified(0, route, 0, false));
        }
        for (int step : NO_STEP) {
            refusedFull("6 step " + step, INDEX, x -> x.setQualified(0, 0, step, false));
        }
        refusedFull("6 no step at all", INDEX, x -> x.setQualified(0, 2, 0, false));
        refusedFull("6 another kind", UNSUPPORTED, x -> x.setQualified(0, 0, 1, false));
        refusedFull("6 another kind, qualified", UNSUPPORTED, x -> x.setQualified(2, 0, 0, true));
    }

    private static void promise7() {
        String[] wrong = {"Q---", "wQ--", "wpQ-", "wplQ", "-p--", "w-p-", "wl-p", "--w-", "---w", "w--p",
            "ww--", "wpw-", "wplw", "wpp-", "wplp", "wpll", "pp--", "p-w-"};
        for (String w : wrong) {
            refusedOpen("7 rule " + w, ARGUMENT, x -> x.setRule(w.charAt(0), w.charAt(1), w.charAt(2), w.charAt(3)));
        }
    }

    private static void promise8() {
        for (int tool : NO_TOOL_OPEN) {
            refusedOpen("8 tool " + tool, INDEX, x -> x.askRest(tool));
        }
        for (int tool : NO_TOOL_FULL) {
            refusedFull("8 tool " + tool, INDEX, x -> x.askRest(tool));
        }
    }

    private static int[][] wrongStarts() {
        return new int[][] {{0, 0}, {26, 0}, {1, -1}, {1, 10}, {Integer.MIN_VALUE, 0}, {Integer.MAX_VALUE, 0},
            {1, Integer.MIN_VALUE}, {1, Integer.MAX_VALUE}};
    }

    private static void promise9() {
        for (int route : NO_ROUTE_OPEN) {
            refusedOpen("9 route " + route, INDEX, x -> x.start(route, 1, 0));
        }
        for (int[] w : wrongStarts()) {
            refusedOpen("9 out of range", ARGUMENT, x -> x.start(0, w[0], w[1]));
        }
        refusedOpen("9 no steps", UNSUPPORTED, x -> x.start(1, 1, 0));
        refusedFull("9 there were 16 lots", STATE, x -> x.start(0, 1, 0));
        refusedFull("9 there were 16 lots, on another route", STATE, x -> x.start(1, 1, 0));
    }

    private static void promise9Order() {
        for (int[] w : wrongStarts()) {
            refusedOpen("9 no route ahead of range", INDEX, x -> x.start(2, w[0], w[1]));
            refusedOpen("9 range ahead of no steps", ARGUMENT, x -> x.start(1, w[0], w[1]));
            refusedFull("9 range ahead of 16 lots", ARGUMENT, x -> x.start(0, w[0], w[1]));
            refusedFull("9 range ahead of both", ARGUMENT, x -> x.start(2, w[0], w[1]));
        }
        refusedFull("9 no route ahead of 16 lots", INDEX, x -> x.start(3, 1, 0));
        refusedFull("9 no steps ahead of 16 lots", UNSUPPORTED, x -> x.start(2, 1, 0));
    }

    private static void promise10() {
        for (int lot : NO_LOT_OPEN) {
            refusedOpen("10 lot " + lot, INDEX, x -> x.split(lot, 1));
        }
        for (int wafers : new int[] {0, -1, 25, 26, Integer.MIN_VALUE, Integer.MAX_VALUE}) {
            refusedOpen("10 waits, wafers " + wafers, ARGUMENT, x -> x.split(9, wafers));
        }
        for (int wafers : new int[] {0, -1, 6, 7, Integer.MIN_VALUE, Integer.MAX_VALUE}) {
            refusedOpen("10 held, wafers " + wafers, ARGUMENT, x -> x.split(8, wafers));
        }
        refusedOpen("10 in a tool", UNSUPPORTED, x -> x.split(6, 1));
        refusedOpen("10 done", UNSUPPORTED, x -> x.split(2, 1));
        refusedFull("10 waits, there were 16 lots", STATE, x -> x.split(9, 1));
        refusedFull("10 held, there were 16 lots", STATE, x -> x.split(8, 1));
    }

    private static void promise10Order() {
        refusedFull("10 no lot ahead of range", INDEX, x -> x.split(16, 0));
        refusedFull("10 no lot ahead of 16 lots", INDEX, x -> x.split(-1, 1));
        refusedOpen("10 range ahead of in a tool", ARGUMENT, x -> x.split(6, 16));
        refusedOpen("10 range ahead of done", ARGUMENT, x -> x.split(2, 0));
        refusedOpen("10 range ahead of scrapped", ARGUMENT, x -> x.split(7, 1));
        refusedOpen("10 range ahead of merged", ARGUMENT, x -> x.split(4, 1));
        refusedFull("10 range ahead of 16 lots", ARGUMENT, x -> x.split(9, 25));
        refusedFull("10 none ahead of 16 lots", ARGUMENT, x -> x.split(9, 0));
        refusedFull("10 in a tool ahead of 16 lots", UNSUPPORTED, x -> x.split(6, 1));
        refusedFull("10 done ahead of 16 lots", UNSUPPORTED, x -> x.split(2, 1));
    }

    private static void promise11() {
        for (int lot : NO_LOT_FULL) {
            refusedFull("11 lot " + lot, INDEX, x -> x.merge(lot, 9));
            refusedFull("11 other " + lot, INDEX, x -> x.merge(9, lot));
        }
        for (int lot = 0; lot < STATES.length(); lot++) {
            int l = lot;
            refusedFull("11 both are lot " + l, ARGUMENT, x -> x.merge(l, l));
            if (STATES.charAt(lot) != 'w') {
                refusedFull("11 into one that is " + STATES.charAt(l), UNSUPPORTED, x -> x.merge(l, 10));
                refusedFull("11 one that is " + STATES.charAt(l), UNSUPPORTED, x -> x.merge(10, l));
            }
        }
        refusedFull("11 they wait for other steps", UNSUPPORTED, x -> x.merge(1, 10));
        refusedFull("11 one waits for an earlier step", UNSUPPORTED, x -> x.merge(10, 1));
        refusedFull("11 26 wafers", UNSUPPORTED, x -> x.merge(9, 10));
        refusedFull("11 26 wafers the other way", UNSUPPORTED, x -> x.merge(10, 9));
    }

    private static void promise11Order() {
        for (int lot : NO_LOT_FULL) {
            refusedFull("11 no lot ahead of both the same", INDEX, x -> x.merge(lot, lot));
            refusedFull("11 no lot ahead of one that is done", INDEX, x -> x.merge(lot, 2));
            refusedFull("11 no other ahead of one that is done", INDEX, x -> x.merge(2, lot));
        }
    }

    private static void promise12() {
        for (int lot : NO_LOT_OPEN) {
            refusedOpen("12 lot " + lot, INDEX, x -> x.scrap(lot, 1));
            refusedOpen("12 no lot ahead of range " + lot, INDEX, x -> x.scrap(lot, 0));
        }
        for (int wafers : new int[] {0, -1, 26, Integer.MIN_VALUE, Integer.MAX_VALUE}) {
            refusedOpen("12 waits, wafers " + wafers, ARGUMENT, x -> x.scrap(9, wafers));
        }
        refusedOpen("12 held, one too many", ARGUMENT, x -> x.scrap(8, 7));
        refusedOpen("12 in a tool", UNSUPPORTED, x -> x.scrap(6, 1));
        refusedOpen("12 in a tool, all of it", UNSUPPORTED, x -> x.scrap(6, 16));
        refusedOpen("12 not so many ahead of in a tool", ARGUMENT, x -> x.scrap(6, 17));
        refusedOpen("12 done", UNSUPPORTED, x -> x.scrap(2, 12));
        refusedOpen("12 not so many ahead of done", ARGUMENT, x -> x.scrap(2, 13));
        refusedOpen("12 not so many ahead of scrapped", ARGUMENT, x -> x.scrap(7, 1));
        refusedOpen("12 not so many ahead of merged", ARGUMENT, x -> x.scrap(4, 1));
    }

    private static void promises13And14() {
        for (int lot : NO_LOT_OPEN) {
            refusedOpen("13 lot " + lot, INDEX, x -> x.hold(lot));
            refusedOpen("14 lot " + lot, INDEX, x -> x.release(lot));
        }
        for (int lot = 0; lot < STATES.length(); lot++) {
            char state = STATES.charAt(lot);
            if (state != 'w') {
                WaferYard touched = busy(false);
                EXPECT.same("13 does not wait but is " + state, touched.hold(lot), false);
                sameFromNowOn("13 held again, " + state, touched, busy(false));
            }
            if (state != 'h') {
                WaferYard touched = busy(false);
                EXPECT.same("14 is not held but is " + state, touched.release(lot), false);
                sameFromNowOn("14 released, " + state, touched, busy(false));
            }
        }
    }

    private static void promise15() {
        for (int ticks : new int[] {0, -1, 51, Integer.MIN_VALUE, Integer.MAX_VALUE}) {
            refusedOpen("15 ticks " + ticks, ARGUMENT, x -> x.pass(ticks));
        }
        for (int left : new int[] {0, 1, 49}) {
            WaferYard touched = busy(false);
            WaferYard other = busy(false);
            Yards.passTo(touched, 5000 - left);
            Yards.passTo(other, 5000 - left);
            EXPECT.thrown("15 one above 5000", STATE, () -> touched.pass(left + 1));
            EXPECT.thrown("15 range ahead of 5000, none", ARGUMENT, () -> touched.pass(0));
            EXPECT.thrown("15 range ahead of 5000, too many", ARGUMENT, () -> touched.pass(51));
            sameFromNowOn("15 with " + left + " left", touched, other);
        }
    }

    private static void lotsThatAreNot() {
        for (int lot : NO_LOT_FULL) {
            String what = " of lot " + lot;
            refusedFull("17" + what, INDEX, x -> x.lotState(lot));
            refusedFull("18" + what, INDEX, x -> x.causeOf(lot));
            refusedFull("19" + what, INDEX, x -> x.stepOf(lot));
            refusedFull("20" + what, INDEX, x -> x.wafers(lot));
            refusedFull("21" + what, INDEX, x -> x.limitOf(lot));
            refusedFull("22" + what, INDEX, x -> x.toolOf(lot));
            refusedFull("23" + what, INDEX, x -> x.parentOf(lot));
            refusedFull("24" + what, INDEX, x -> x.records(lot));
            refusedFull("25" + what, INDEX, x -> x.recordAt(lot, 0, 's'));
            refusedFull("25 ahead of what" + what, INDEX, x -> x.recordAt(lot, 0, 'z'));
            refusedFull("32" + what, INDEX, x -> x.why(0, lot));
            refusedFull("33" + what, INDEX, x -> x.promised(lot));
            refusedFull("34" + what, INDEX, x -> x.yieldOf(lot));
        }
    }

    private static void toolsThatAreNot() {
        for (int tool : NO_TOOL_FULL) {
            String what = " of tool " + tool;
            refusedFull("26" + what, INDEX, x -> x.toolState(tool));
            refusedFull("27" + what, INDEX, x -> x.setupOf(tool));
            refusedFull("28" + what, INDEX, x -> x.driftOf(tool));
            refusedFull("29" + what, INDEX, x -> x.useOf(tool));
            refusedFull("30" + what, INDEX, x -> x.correction(tool, 0, 0));
            refusedFull("31" + what, INDEX, x -> x.measures(tool));
            refusedFull("32" + what, INDEX, x -> x.why(tool, 0));
        }
        for (int route : NO_ROUTE_FULL) {
            refusedFull("30 route " + route, INDEX, x -> x.correction(0, route, 0));
        }
        for (int step : NO_STEP) {
            refusedFull("30 step " + step, INDEX, x -> x.correction(0, 0, step));
        }
        refusedFull("30 no step at all", INDEX, x -> x.correction(0, 2, 0));
        refusedFull("30 step 12 of 12", INDEX, x -> x.correction(0, 1, 12));
    }

    private static void askedForWhatIsNot() {
        for (int lot = 0; lot < STATES.length(); lot++) {
            int l = lot;
            char state = STATES.charAt(lot);
            if (state != 'h') {
                refusedOpen("18 not held but " + state, NONE, x -> x.causeOf(l));
            }
            if (state != 't') {
                refusedOpen("22 in no tool but " + state, NONE, x -> x.toolOf(l));
            }
            if (state != 'd') {
                refusedOpen("34 not done but " + state, NONE, x -> x.yieldOf(l));
            }
            if (state != 'w' && state != 't') {
                refusedOpen("33 no promise but " + state, UNSUPPORTED, x -> x.promised(l));
            }
            if (state != 'h' || l != 3) {
                refusedOpen("21 no limit but " + state, NONE, x -> x.limitOf(l));
            }
        }
        EXPECT.same("21 held by an excursion with its limit", busy(false).limitOf(3), 15);
        for (int index : new int[] {-1, 4, Integer.MIN_VALUE, Integer.MAX_VALUE}) {
            refusedOpen("25 index " + index, INDEX, x -> x.recordAt(2, index, 'e'));
            refusedOpen("25 index ahead of what " + index, INDEX, x -> x.recordAt(2, index, 'z'));
        }
        for (char what : new char[] {'z', 'S', 0, '-', (char) 65535}) {
            refusedOpen("25 no such thing " + (int) what, ARGUMENT, x -> x.recordAt(2, 3, what));
        }
        refusedOpen("27 no setup", NONE, x -> x.setupOf(1));
    }

    private static void figuresOfNothing() {
        WaferYard x = new WaferYard();
        EXPECT.thrown("37 no tools and no tick", ArithmeticException.class, () -> x.workingShare());
        EXPECT.thrown("38 no lots", ArithmeticException.class, () -> x.meanTime());
        sameFromNothing(x);
    }

    private static void sameFromNothing(WaferYard x) {
        WaferYard other = new WaferYard();
        alike("nothing is changed", x, other);
        EXPECT.sameText("no settings", Snapshot.settings(x), Snapshot.settings(other));
    }

    private static void askingChangesNothing() {
        for (int kind = 0; kind < 2; kind++) {
            WaferYard asked = busy(kind == 1);
            Snapshot.of(asked);
            Snapshot.of(asked);
            sameFromNowOn("asked and asked again", asked, busy(kind == 1));
        }
        WaferYard nothing = new WaferYard();
        Snapshot.of(nothing);
        sameFromNothing(nothing);
    }
}
