import java.util.NoSuchElementException;

/** Promises 16 to 35: what is asked of lots and tools. */
public final class AskTest {
    private static final Class<IndexOutOfBoundsException> INDEX = IndexOutOfBoundsException.class;
    private static final Class<IllegalArgumentException> ARGUMENT = IllegalArgumentException.class;
    private static final Class<UnsupportedOperationException> UNSUPPORTED = UnsupportedOperationException.class;
    private static final Class<NoSuchElementException> NONE = NoSuchElementException.class;
    private static final int[] WRONG = {-1, 2, 16, 100, Integer.MIN_VALUE, Integer.MAX_VALUE};
    private static final Expect EXPECT = new Expect();

    public static void main(String[] args) {
        noSuchLot();
        noSuchTool();
        promise16();
        promises17To20();
        promise18Causes();
        promise21();
        promise22();
        promise23();
        promises24And25();
        promise26();
        promise27();
        promises28To31();
        promise32();
        promise33();
        promise34();
        promise34Least();
        promise35();
        EXPECT.end();
    }

    /** Two lots and two tools. */
    private static WaferYard pair() {
        WaferYard x = new WaferYard();
        Yards.route(x, Yards.step(0, 2), Yards.step(1, 3));
        Yards.tool(x, 0);
        Yards.tool(x, 1);
        x.start(0, 4, 0);
        x.start(0, 5, 0);
        return x;
    }

    private static void noSuchLot() {
        WaferYard x = pair();
        for (int lot : WRONG) {
            String what = " of lot " + lot;
            EXPECT.thrown("17 state" + what, INDEX, () -> x.lotState(lot));
            EXPECT.thrown("18 cause" + what, INDEX, () -> x.causeOf(lot));
            EXPECT.thrown("19 step" + what, INDEX, () -> x.stepOf(lot));
            EXPECT.thrown("20 wafers" + what, INDEX, () -> x.wafers(lot));
            EXPECT.thrown("21 limit" + what, INDEX, () -> x.limitOf(lot));
            EXPECT.thrown("22 tool" + what, INDEX, () -> x.toolOf(lot));
            EXPECT.thrown("23 parent" + what, INDEX, () -> x.parentOf(lot));
            EXPECT.thrown("24 records" + what, INDEX, () -> x.records(lot));
            EXPECT.thrown("25 record" + what, INDEX, () -> x.recordAt(lot, 0, 's'));
            EXPECT.thrown("25 record ahead of letter" + what, INDEX, () -> x.recordAt(lot, 0, '?'));
            EXPECT.thrown("32 why" + what, INDEX, () -> x.why(0, lot));
            EXPECT.thrown("33 promised" + what, INDEX, () -> x.promised(lot));
            EXPECT.thrown("34 yield" + what, INDEX, () -> x.yieldOf(lot));
        }
    }

    private static void noSuchTool() {
        WaferYard x = pair();
        for (int tool : WRONG) {
            String what = " of tool " + tool;
            EXPECT.thrown("26 state" + what, INDEX, () -> x.toolState(tool));
            EXPECT.thrown("27 setup" + what, INDEX, () -> x.setupOf(tool));
            EXPECT.thrown("28 drift" + what, INDEX, () -> x.driftOf(tool));
            EXPECT.thrown("29 use" + what, INDEX, () -> x.useOf(tool));
            EXPECT.thrown("30 correction" + what, INDEX, () -> x.correction(tool, 0, 0));
            EXPECT.thrown("30 route" + what, INDEX, () -> x.correction(0, tool, 0));
            EXPECT.thrown("30 step" + what, INDEX, () -> x.correction(0, 0, tool));
            EXPECT.thrown("31 measures" + what, INDEX, () -> x.measures(tool));
            EXPECT.thrown("32 why" + what, INDEX, () -> x.why(tool, 0));
        }
    }

    private static void promise16() {
        WaferYard x = new WaferYard();
        EXPECT.same("16 at first", x.tick(), 0);
        x.pass(7);
        EXPECT.same("16 the next one to go", x.tick(), 7);
        EXPECT.same("16 asked again", x.tick(), 7);
    }

    /** A lot on its way: waits, in a tool, waits, held, waits, in a tool, done. */
    private static void promises17To20() {
        WaferYard x = pair();
        is("waits", x, 0, "w0");
        EXPECT.thrown("18 waits", NONE, () -> x.causeOf(0));
        x.pass(4);
        is("in a tool", x, 0, "t0");
        EXPECT.thrown("18 in a tool", NONE, () -> x.causeOf(0));
        x.pass(1);
        is("in the next tool", x, 0, "t1");
        x.pass(2);
        is("the second waits", x, 1, "w1");
        x.hold(1);
        is("held", x, 1, "h1");
        EXPECT.same("18 cause", x.causeOf(1), 'o');
        x.pass(3);
        is("done", x, 0, "d2");
        EXPECT.thrown("18 done", NONE, () -> x.causeOf(0));
        EXPECT.same("20 of one that is done", x.wafers(0), 4);
        x.scrap(1, 2);
        EXPECT.same("20 of one that is held", x.wafers(1), 3);
        x.scrap(1, 3);
        is("scrapped", x, 1, "x1");
        EXPECT.same("20 of one that is scrapped", x.wafers(1), 0);
        EXPECT.thrown("18 scrapped", NONE, () -> x.causeOf(1));
        x.start(0, 6, 0);
        x.start(0, 7, 0);
        x.merge(3, 2);
        is("merged", x, 2, "m0");
        EXPECT.same("20 of one that is merged", x.wafers(2), 0);
        EXPECT.same("20 of the one with both", x.wafers(3), 13);
        EXPECT.thrown("18 merged", NONE, () -> x.causeOf(2));
        x.pass(30);
        is("stays merged", x, 2, "m0");
        is("stays scrapped", x, 1, "x1");
    }

    private static void is(String what, WaferYard x, int lot, String stateAndStep) {
        EXPECT.same("17 " + what, x.lotState(lot), stateAndStep.charAt(0));
        EXPECT.same("19 " + what, x.stepOf(lot), stateAndStep.charAt(1) - '0');
    }

    private static void promise18Causes() {
        WaferYard x = Yards.aheadOfMeasure(11, 1, 0);
        x.pass(1);
        EXPECT.same("18 an excursion", x.causeOf(11), 'e');
        x.release(11);
        EXPECT.thrown("18 released", NONE, () -> x.causeOf(11));
        x.hold(11);
        EXPECT.same("18 another cause", x.causeOf(11), 'o');
    }

    private static void promise21() {
        WaferYard x = new WaferYard();
        Yards.route(x, Yards.limited(0, 1, 6), Yards.step(1, 1));
        Yards.tool(x, 0);
        Yards.tool(x, 1);
        x.start(0, 2, 0);
        EXPECT.thrown("21 none at first", NONE, () -> x.limitOf(0));
        x.pass(1);
        EXPECT.thrown("21 none in a tool", NONE, () -> x.limitOf(0));
        x.setQualified(1, 0, 1, false);
        x.pass(3);
        EXPECT.same("21 the tick", x.limitOf(0), 9);
        x.hold(0);
        EXPECT.same("21 held", x.limitOf(0), 9);
        x.split(0, 1);
        EXPECT.same("21 of a part", x.limitOf(1), 9);
        x.release(0);
        Yards.passTo(x, 10);
        EXPECT.same("21 up, but not yet held by it", x.limitOf(0), 9);
        x.pass(1);
        EXPECT.thrown("21 held by it", NONE, () -> x.limitOf(0));
        EXPECT.same("21 held by a call", x.limitOf(1), 9);
        x.scrap(1, 1);
        EXPECT.thrown("21 scrapped", NONE, () -> x.limitOf(1));
    }

    private static void promise22() {
        WaferYard x = pair();
        EXPECT.thrown("22 waits", NONE, () -> x.toolOf(0));
        x.pass(4);
        EXPECT.same("22 the first", x.toolOf(0), 0);
        EXPECT.thrown("22 the other waits", NONE, () -> x.toolOf(1));
        x.pass(1);
        EXPECT.same("22 the next", x.toolOf(0), 1);
        EXPECT.same("22 the other", x.toolOf(1), 0);
        x.pass(2);
        EXPECT.thrown("22 waits again", NONE, () -> x.toolOf(1));
        x.hold(1);
        EXPECT.thrown("22 held", NONE, () -> x.toolOf(1));
        x.pass(5);
        EXPECT.thrown("22 done", NONE, () -> x.toolOf(0));
    }

    private static void promise23() {
        WaferYard x = pair();
        EXPECT.same("23 none", x.parentOf(1), -1);
        x.split(1, 2);
        x.split(2, 1);
        EXPECT.same("23 of a part", x.parentOf(2), 1);
        EXPECT.same("23 of a part of a part", x.parentOf(3), 2);
        x.merge(1, 2);
        EXPECT.same("23 of a merged one", x.parentOf(2), 1);
        EXPECT.same("23 of the other", x.parentOf(1), -1);
        x.scrap(3, 1);
        EXPECT.same("23 of a scrapped one", x.parentOf(3), 2);
    }

    private static void promises24And25() {
        WaferYard x = new WaferYard();
        Yards.route(x, Yards.step(1, 1), Yards.step(0, 2), Yards.step(1, 3));
        Yards.drifting(x, 0, -4);
        Yards.drifting(x, 1, 3);
        x.start(0, 1, 0);
        EXPECT.same("24 none", x.records(0), 0);
        EXPECT.thrown("25 none", INDEX, () -> x.recordAt(0, 0, 's'));
        x.pass(3);
        EXPECT.same("24 none while in the tool", x.records(0), 0);
        x.pass(1);
        EXPECT.same("24 one", x.records(0), 1);
        EXPECT.thrown("25 index 1", INDEX, () -> x.recordAt(0, 1, 's'));
        Yards.passTo(x, 30);
        EXPECT.same("24 all", x.records(0), 3);
        int[][] due = {{0, 1, 0, 3, 0}, {1, 0, 3, 7, 0}, {2, 1, 7, 12, 3}};
        for (int i = 0; i < 3; i++) {
            for (int k = 0; k < 5; k++) {
                EXPECT.same("25 row " + i + " thing " + k, x.recordAt(0, i, "stbed".charAt(k)), due[i][k]);
            }
        }
        EXPECT.thrown("25 index 3", INDEX, () -> x.recordAt(0, 3, 's'));
        EXPECT.thrown("25 index -1", INDEX, () -> x.recordAt(0, -1, 's'));
        for (char bad : new char[] {'S', 'x', '-', 0, 'w', (char) 65535, 'a', 'c', 'f'}) {
            EXPECT.thrown("25 thing " + (int) bad, ARGUMENT, () -> x.recordAt(0, 0, bad));
            EXPECT.thrown("25 index ahead of thing " + (int) bad, INDEX, () -> x.recordAt(0, 3, bad));
        }
        mergedRecords();
    }

    /** The first lot keeps its record, and so does the one that is merged into it. */
    private static void mergedRecords() {
        WaferYard x = pair();
        Yards.passTo(x, 5);
        x.start(0, 1, 0);
        x.hold(2);
        Yards.passTo(x, 7);
        x.split(1, 1);
        EXPECT.same("24 of a part", x.records(3), 1);
        EXPECT.same("25 of a part", x.recordAt(3, 0, 'b'), 4);
        x.merge(3, 1);
        EXPECT.same("24 of the merged one", x.records(1), 1);
        EXPECT.same("24 of the first", x.records(3), 1);
        Yards.passTo(x, 15);
        EXPECT.same("24 goes on alone", x.records(3), 2);
        EXPECT.same("24 the merged one stays", x.records(1), 1);
    }

    private static void promise26() {
        WaferYard x = new WaferYard();
        Yards.route(x, Yards.step(0, 1));
        x.addTool(0, 1, 0, 2, 3, 0);
        EXPECT.same("26 idle", x.toolState(0), 'i');
        x.start(0, 1, 0);
        x.start(0, 1, 0);
        x.start(0, 1, 0);
        x.pass(1);
        EXPECT.same("26 works", x.toolState(0), 'p');
        Yards.passTo(x, 4);
        EXPECT.same("26 works again", x.toolState(0), 'p');
        x.askRest(0);
        EXPECT.same("26 works and needs a rest", x.toolState(0), 'n');
        x.pass(1);
        EXPECT.same("26 rests", x.toolState(0), 'r');
        x.askRest(0);
        EXPECT.same("26 rests, though told", x.toolState(0), 'r');
        x.hold(2);
        x.pass(3);
        EXPECT.same("26 idle again", x.toolState(0), 'i');
        x.askRest(0);
        EXPECT.same("26 idle and needs a rest", x.toolState(0), 'n');
        x.pass(1);
        EXPECT.same("26 rests again", x.toolState(0), 'r');
    }

    private static void promise27() {
        WaferYard x = new WaferYard();
        Yards.route(x, Yards.step(0, 1), Yards.step(1, 1));
        Yards.route(x, Yards.step(1, 1), Yards.step(1, 1), Yards.step(0, 1));
        Yards.tool(x, 0);
        Yards.tool(x, 1);
        EXPECT.thrown("27 none", NONE, () -> x.setupOf(0));
        x.start(0, 1, 0);
        x.pass(1);
        EXPECT.same("27 route 0, step 0", x.setupOf(0), 0);
        EXPECT.thrown("27 the other has none", NONE, () -> x.setupOf(1));
        Yards.passTo(x, 8);
        EXPECT.same("27 stays when idle", x.setupOf(0), 0);
        EXPECT.same("27 route 0, step 1", x.setupOf(1), 1);
        x.start(1, 1, 0);
        x.pass(1);
        EXPECT.same("27 route 1, step 0", x.setupOf(1), 100);
        Yards.passTo(x, 12);
        EXPECT.same("27 route 1, step 1", x.setupOf(1), 101);
        Yards.passTo(x, 15);
        EXPECT.same("27 route 1, step 2", x.setupOf(0), 102);
        x.askRest(1);
        x.pass(2);
        EXPECT.thrown("27 none behind a rest", NONE, () -> x.setupOf(1));
        WaferYard y = new WaferYard();
        y.addRoute();
        y.addRoute();
        Yards.route(y, Yards.step(0, 1), Yards.step(0, 1), Yards.step(0, 1), Yards.step(0, 1), Yards.step(0, 1),
                Yards.step(0, 1), Yards.step(0, 1), Yards.step(0, 1), Yards.step(0, 1), Yards.step(0, 1),
                Yards.step(0, 1), Yards.step(0, 1));
        Yards.tool(y, 0);
        y.start(2, 1, 0);
        y.pass(50);
        EXPECT.same("27 the last of all", y.setupOf(0), 211);
        EXPECT.same("27 all steps", y.records(0), 12);
    }

    private static void promises28To31() {
        WaferYard x = new WaferYard();
        Yards.route(x, Yards.step(1, 1));
        Yards.route(x, Yards.measured(0, 1));
        x.addTool(0, 2, 0, 50, 2, 3);
        Yards.drifting(x, 1, -9);
        EXPECT.same("28 at first", x.driftOf(0), 0);
        EXPECT.same("29 at first", x.useOf(0), 0);
        EXPECT.same("30 at first", x.correction(0, 1, 0), 0);
        EXPECT.same("31 at first", x.measures(0), 0);
        x.start(1, 1, 0);
        x.start(1, 1, 0);
        x.start(0, 1, 0);
        x.start(1, 1, 0);
        Yards.passTo(x, 8);
        EXPECT.same("28 two batches", x.driftOf(0), 6);
        EXPECT.same("28 less than 0", x.driftOf(1), -9);
        EXPECT.same("29 three lots", x.useOf(0), 3);
        EXPECT.same("29 one lot", x.useOf(1), 1);
        EXPECT.same("30 two measures", x.correction(0, 1, 0), -2);
        EXPECT.same("30 the step of another kind", x.correction(0, 0, 0), 0);
        EXPECT.same("30 the other tool", x.correction(1, 1, 0), 0);
        EXPECT.same("31 one a batch", x.measures(0), 2);
        EXPECT.same("31 none of what is not measured", x.measures(1), 0);
    }

    private static void promise32() {
        WaferYard x = pair();
        EXPECT.same("32 it fits", x.why(0, 0), '-');
        EXPECT.same("32 another kind", x.why(1, 0), 'k');
        x.pass(1);
        EXPECT.same("32 it works", x.why(0, 1), 't');
        EXPECT.same("32 does not wait", x.why(1, 0), 'w');
        x.pass(30);
        EXPECT.same("32 done", x.why(0, 0), 'w');
        EXPECT.same("32 asked again", x.why(0, 0), 'w');
    }

    private static void promise33() {
        WaferYard x = pair();
        EXPECT.same("33 all steps", x.promised(0), 10);
        x.pass(2);
        EXPECT.same("33 in a tool, the present one included", x.promised(0), 12);
        EXPECT.same("33 waits", x.promised(1), 12);
        Yards.passTo(x, 5);
        EXPECT.same("33 the last step", x.promised(0), 11);
        x.hold(1);
        EXPECT.same("33 in a tool, not held", x.promised(1), 15);
        Yards.passTo(x, 7);
        x.hold(1);
        EXPECT.thrown("33 held", UNSUPPORTED, () -> x.promised(1));
        Yards.passTo(x, 12);
        EXPECT.thrown("33 done", UNSUPPORTED, () -> x.promised(0));
        x.scrap(1, 5);
        EXPECT.thrown("33 scrapped", UNSUPPORTED, () -> x.promised(1));
        x.start(0, 1, 0);
        x.start(0, 1, 0);
        x.merge(2, 3);
        EXPECT.thrown("33 merged", UNSUPPORTED, () -> x.promised(3));
    }

    private static void promise34() {
        WaferYard x = new WaferYard();
        Yards.route(x, Yards.step(0, 1), Yards.step(1, 1), Yards.step(0, 1), Yards.step(1, 1));
        Yards.drifting(x, 0, 9);
        Yards.drifting(x, 1, -7);
        x.start(0, 10, 0);
        EXPECT.thrown("34 waits", NONE, () -> x.yieldOf(0));
        x.pass(1);
        EXPECT.thrown("34 in a tool", NONE, () -> x.yieldOf(0));
        Yards.passTo(x, 4);
        x.start(0, 3, 0);
        x.hold(1);
        EXPECT.thrown("34 held", NONE, () -> x.yieldOf(1));
        Yards.passTo(x, 20);
        EXPECT.same("34 both ways count", x.yieldOf(0), 840);
        x.scrap(1, 3);
        EXPECT.thrown("34 scrapped", NONE, () -> x.yieldOf(1));
    }

    /** Eleven lots drift the tool to 99, then lots with 99, 108 and 117. */
    private static void promise34Least() {
        WaferYard x = new WaferYard();
        Yards.route(x, Yards.step(0, 1));
        x.addTool(0, 1, 0, 50, 1, 9);
        for (int i = 0; i < 14; i++) {
            x.start(0, 2 + i, 0);
        }
        x.pass(50);
        EXPECT.same("34 no deviation", x.yieldOf(0), 200);
        EXPECT.same("34 nine", x.yieldOf(1), 91 * 3);
        EXPECT.same("34 ninety-nine", x.yieldOf(11), 13);
        EXPECT.same("34 not less than 0", x.yieldOf(12), 0);
        EXPECT.same("34 at least 0", x.yieldOf(13), 0);
    }

    private static void promise35() {
        WaferYard x = Yards.aheadOfMeasure(10, 1, 0);
        EXPECT.same("35 none", x.excursions(), 0);
        x.pass(1);
        EXPECT.same("35 ten is none", x.excursions(), 0);
        WaferYard y = Yards.aheadOfMeasure(11, -1, 0);
        EXPECT.same("35 not before the measure", y.excursions(), 0);
        y.pass(1);
        EXPECT.same("35 eleven is one", y.excursions(), 1);
        y.pass(50);
        EXPECT.same("35 stays", y.excursions(), 1);
    }
}
