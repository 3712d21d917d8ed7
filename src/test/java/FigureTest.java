import java.lang.reflect.Field;

/** Promises 36 to 39: moves, shares, times, and the check by all records. */
public final class FigureTest {
    private static final Class<ArithmeticException> ARITHMETIC = ArithmeticException.class;
    private static final Expect EXPECT = new Expect();

    public static void main(String[] args) throws ReflectiveOperationException {
        promise36();
        promise37();
        promise37AsFloat();
        promise38();
        promise38OfParts();
        promise38AsDouble();
        promise39();
        promise39HeldAndReworked();
        promise39Broken();
        promise39StepsOfOneKind();
        promise39Overlaps();
        promise39OtherBatches();
        promise39Late();
        EXPECT.end();
    }

    private static void promise36() {
        WaferYard x = new WaferYard();
        Yards.route(x, Yards.step(0, 1), Yards.step(1, 1));
        x.addTool(0, 2, 0, 50, 1, 0);
        Yards.tool(x, 1);
        x.start(0, 25, 0);
        x.start(0, 7, 0);
        x.pass(3);
        EXPECT.same("36 none", x.moves(), 0);
        x.pass(1);
        EXPECT.same("36 a batch", x.moves(), 32);
        x.scrap(1, 3);
        EXPECT.same("36 not less by scrap", x.moves(), 32);
        Yards.passTo(x, 7);
        EXPECT.same("36 one more", x.moves(), 57);
        Yards.passTo(x, 20);
        EXPECT.same("36 those that were left", x.moves(), 61);
    }

    private static void promise37() {
        WaferYard x = new WaferYard();
        Yards.route(x, Yards.step(0, 2));
        x.start(0, 1, 0);
        EXPECT.thrown("37 neither", ARITHMETIC, () -> x.workingShare());
        x.pass(1);
        EXPECT.thrown("37 no tools", ARITHMETIC, () -> x.workingShare());
        WaferYard y = new WaferYard();
        Yards.route(y, Yards.step(0, 2));
        Yards.tool(y, 0);
        EXPECT.thrown("37 no tick", ARITHMETIC, () -> y.workingShare());
        y.addTool(0, 2, 0, 50, 1, 0);
        y.start(0, 1, 0);
        y.pass(4);
        EXPECT.sameReal("37 not over", y.workingShare(), 0.0f);
        y.pass(1);
        EXPECT.sameReal("37 over, with the setup", y.workingShare(), 4f / 10f);
        y.start(0, 1, 0);
        y.pass(1);
        EXPECT.sameReal("37 works anew", y.workingShare(), 4f / 12f);
        y.pass(4);
        EXPECT.sameReal("37 both are over", y.workingShare(), 6f / 20f);
    }

    private static void promise37AsFloat() {
        WaferYard x = new WaferYard();
        Yards.route(x, Yards.step(0, 5));
        x.addTool(0, 2, 0, 50, 1, 0);
        x.addTool(1, 2, 0, 50, 1, 0);
        x.addTool(2, 2, 0, 50, 1, 0);
        x.start(0, 1, 0);
        x.start(0, 1, 0);
        Yards.passTo(x, 11);
        EXPECT.same("37 a batch counts once, as floats",
                Float.floatToIntBits(x.workingShare()), Float.floatToIntBits(7f / 33f));
        Yards.passTo(x, 5000);
        EXPECT.same("37 at the end",
                Float.floatToIntBits(x.workingShare()), Float.floatToIntBits(7f / 15000f));
    }

    private static void promise38() {
        WaferYard x = new WaferYard();
        EXPECT.thrown("38 no lots", ARITHMETIC, () -> x.meanTime());
        Yards.route(x, Yards.step(0, 2), Yards.step(1, 1));
        Yards.tool(x, 0);
        x.pass(6);
        x.start(0, 1, 0);
        x.pass(10);
        EXPECT.thrown("38 none is done", ARITHMETIC, () -> x.meanTime());
        Yards.tool(x, 1);
        x.pass(3);
        EXPECT.thrown("38 not yet", ARITHMETIC, () -> x.meanTime());
        x.pass(1);
        EXPECT.sameReal("38 from 6 to 19", x.meanTime(), 13.0);
        x.pass(10);
        EXPECT.sameReal("38 to its last end", x.meanTime(), 13.0);
        x.start(0, 1, 0);
        x.pass(30);
        EXPECT.sameReal("38 of two", x.meanTime(), (13.0 + 3.0) / 2.0);
        x.start(0, 1, 0);
        x.scrap(2, 1);
        EXPECT.sameReal("38 not of the others", x.meanTime(), 8.0);
    }

    private static void promise38OfParts() {
        WaferYard x = Yards.small();
        x.start(0, 5, 0);
        x.pass(4);
        x.start(0, 5, 0);
        x.hold(1);
        Yards.passTo(x, 20);
        x.split(1, 2);
        x.release(2);
        Yards.passTo(x, 40);
        EXPECT.same("38 a part is done", x.lotState(2), 'd');
        EXPECT.sameReal("38 the start of the whole", x.meanTime(), (4.0 + 18.0) / 2.0);
        WaferYard y = Yards.bare();
        Yards.tool(y, 0);
        y.pass(2);
        y.start(0, 5, 0);
        Yards.passTo(y, 10);
        EXPECT.same("38 ended a step", y.recordAt(0, 0, 'e'), 6);
        y.split(0, 2);
        y.scrap(0, 3);
        Yards.tool(y, 1);
        y.pass(9);
        EXPECT.same("38 the part alone is done", y.lotState(1), 'd');
        EXPECT.sameReal("38 the whole's start, not its wait", y.meanTime(), 13.0);
    }

    private static void promise38AsDouble() {
        WaferYard x = Yards.small();
        x.start(0, 1, 0);
        x.start(0, 1, 0);
        x.start(0, 1, 0);
        x.pass(20);
        EXPECT.sameReal("38 4, 6 and 8", x.meanTime(), 6.0);
        x.start(0, 1, 0);
        x.pass(9);
        x.start(0, 1, 0);
        x.start(0, 1, 0);
        x.start(0, 1, 0);
        x.pass(9);
        EXPECT.sameReal("38 2, and 2, 4 and 6 more", x.meanTime(), 32.0 / 7.0);
    }

    private static void promise39() {
        WaferYard x = new WaferYard();
        EXPECT.same("39 nothing", x.isSound(), true);
        Yards.route(x, Yards.limited(0, 1, 9), Yards.step(0, 1), Yards.step(1, 4));
        x.addTool(0, 2, 1, 6, 2, 1);
        x.addTool(1, 3, 2, 9, 2, -1);
        for (int i = 0; i < 6; i++) {
            x.start(0, 4, i);
        }
        for (int i = 0; i < 50; i++) {
            x.pass(1);
            x.hold(i % 6);
            x.release(i * 5 % 6);
            if (i % 9 == 0 && x.lotState(0) != 't' && x.wafers(0) > 1 && x.records(0) < 3) {
                x.split(0, 1);
            }
            EXPECT.same("39 tick " + i, x.isSound(), true);
        }
    }

    private static void promise39HeldAndReworked() {
        WaferYard x = new WaferYard();
        Yards.route(x, Yards.limited(0, 1, 2), Yards.step(1, 1));
        Yards.tool(x, 0);
        Yards.tool(x, 1);
        x.start(0, 2, 0);
        x.pass(3);
        x.setQualified(1, 0, 1, false);
        x.pass(1);
        x.split(0, 1);
        x.hold(1);
        Yards.passTo(x, 9);
        EXPECT.same("39 held by its limit", x.causeOf(0), 'q');
        x.release(0);
        x.setQualified(1, 0, 1, true);
        Yards.passTo(x, 15);
        EXPECT.same("39 too late", x.recordAt(0, 1, 'b'), 9);
        EXPECT.same("39 held between", x.isSound(), true);
        x.hold(1);
        x.release(1);
        x.pass(1);
        EXPECT.same("39 the limit that it has", x.causeOf(1), 'q');
        x.release(1);
        Yards.passTo(x, 30);
        EXPECT.same("39 done", x.lotState(1), 'd');
        EXPECT.same("39 a part held between", x.isSound(), true);
        heldBeforeItWasSplit();
        heldWhenReworked();
        WaferYard y = Yards.aheadOfMeasure(7, 1, 1);
        Yards.passTo(y, 40);
        EXPECT.same("39 reworked", y.recordAt(7, 1, 's'), 0);
        EXPECT.same("39 steps follow but for rework", y.isSound(), true);
    }

    private static void heldBeforeItWasSplit() {
        WaferYard x = new WaferYard();
        Yards.route(x, Yards.limited(0, 1, 2), Yards.step(1, 1));
        Yards.tool(x, 0);
        Yards.tool(x, 1);
        x.start(0, 2, 0);
        x.pass(3);
        x.setQualified(1, 0, 1, false);
        Yards.passTo(x, 7);
        EXPECT.same("39 held", x.release(0), true);
        x.split(0, 1);
        x.setQualified(1, 0, 1, true);
        Yards.passTo(x, 20);
        EXPECT.same("39 a part that was not held itself", x.recordAt(1, 1, 'b') > 5, true);
        EXPECT.same("39 held ahead of the split", x.isSound(), true);
    }

    private static void heldWhenReworked() {
        WaferYard x = Yards.aheadOfMeasure(7, 1, 1);
        x.setQualified(0, 1, 0, false);
        x.pass(1);
        EXPECT.same("39 sent back", x.stepOf(7), 0);
        x.hold(7);
        x.release(7);
        x.setQualified(0, 1, 0, true);
        x.pass(9);
        EXPECT.same("39 the step again", x.recordAt(7, 1, 's'), 0);
        EXPECT.same("39 reworked and held between", x.isSound(), true);
    }

    /** One lot behind all three steps of which the first has a limit, and one that is behind it. */
    private static WaferYard threeSteps() {
        WaferYard x = new WaferYard();
        Yards.route(x, Yards.limited(0, 2, 9), Yards.step(1, 2), Yards.step(0, 2));
        Yards.tool(x, 0);
        Yards.tool(x, 1);
        Yards.tool(x, 0);
        x.setQualified(2, 0, 0, false);
        x.start(0, 1, 0);
        x.start(0, 1, 0);
        Yards.passTo(x, 40);
        EXPECT.same("39 all its steps", x.records(0), 3);
        EXPECT.same("39 untouched", x.isSound(), true);
        return x;
    }

    /** No call makes a record unsound; so the test writes into the rows of one. */
    private static void write(WaferYard x, int lot, String row, int index, int value)
            throws ReflectiveOperationException {
        int[] rows = (int[]) read(history(x, lot), row);
        rows[index] = value;
    }

    private static Object history(WaferYard x, int lot) throws ReflectiveOperationException {
        return read(((Object[]) read(x, "lots"))[lot], "history");
    }

    private static Object read(Object of, String name) throws ReflectiveOperationException {
        Field field = of.getClass().getDeclaredField(name);
        field.setAccessible(true);
        return field.get(of);
    }

    private static void broken(String what, String row, int index, int value) throws ReflectiveOperationException {
        WaferYard x = threeSteps();
        write(x, 0, row, index, value);
        EXPECT.same("39 " + what, x.isSound(), false);
    }

    private static void promise39Broken() throws ReflectiveOperationException {
        broken("begins behind the first step", "steps", 0, 1);
        broken("leaves out a step", "steps", 1, 2);
        broken("a step again", "steps", 2, 1);
        broken("no such step", "steps", 2, 3);
        broken("a negative step", "steps", 2, -1);
        broken("a tool of another kind", "tools", 1, 0);
        broken("a tool of another kind at once", "tools", 0, 1);
        broken("no such tool", "tools", 1, 3);
        broken("a negative tool", "tools", 1, -1);
        broken("begins ahead of the end ahead", "begins", 1, 3);
        broken("ends ahead of its beginning", "ends", 2, 1);
    }

    /** A lot behind four of five steps, all of one kind, whose steps are written anew. */
    private static WaferYard withSteps(int... steps) throws ReflectiveOperationException {
        WaferYard x = new WaferYard();
        Yards.route(x, Yards.step(0, 1), Yards.step(0, 1), Yards.step(0, 1), Yards.step(0, 1), Yards.step(0, 1));
        Yards.tool(x, 0);
        x.setQualified(0, 0, 4, false);
        x.start(0, 1, 0);
        Yards.passTo(x, 20);
        EXPECT.same("39 four steps", x.records(0), 4);
        for (int row = 0; row < steps.length; row++) {
            write(x, 0, "steps", row, steps[row]);
        }
        return x;
    }

    /** "Steps follow each other but for rework." */
    private static void promise39StepsOfOneKind() throws ReflectiveOperationException {
        EXPECT.same("39 one by one", withSteps(0, 1, 2, 3).isSound(), true);
        EXPECT.same("39 one is left out", withSteps(0, 2, 3, 4).isSound(), false);
        EXPECT.same("39 the last but one is left out", withSteps(0, 1, 2, 4).isSound(), false);
        EXPECT.same("39 one comes again", withSteps(0, 1, 1, 2).isSound(), false);
        EXPECT.same("39 an earlier one comes again", withSteps(0, 1, 2, 1).isSound(), false);
        WaferYard reworked = withSteps(0, 1, 2, 1);
        write(reworked, 0, "betweens", 3, 2);
        EXPECT.same("39 an earlier one comes again by rework", reworked.isSound(), true);
        write(reworked, 0, "betweens", 3, 3);
        EXPECT.same("39 by rework, and held, too", reworked.isSound(), true);
        write(reworked, 0, "betweens", 3, 1);
        EXPECT.same("39 held is not reworked", reworked.isSound(), false);
    }

    private static void promise39Overlaps() throws ReflectiveOperationException {
        WaferYard x = threeSteps();
        int end = x.recordAt(0, 0, 'e');
        EXPECT.same("39 in one tool", x.recordAt(1, 0, 't'), x.recordAt(0, 0, 't'));
        write(x, 1, "begins", 0, end);
        EXPECT.same("39 one begins in the end of the other", x.isSound(), true);
        write(x, 1, "begins", 0, end - 1);
        EXPECT.same("39 two works of a tool overlap", x.isSound(), false);
        WaferYard y = new WaferYard();
        Yards.route(y, Yards.step(0, 2));
        y.addTool(0, 2, 0, 50, 1, 0);
        y.start(0, 1, 0);
        y.start(0, 1, 0);
        Yards.passTo(y, 20);
        EXPECT.same("39 one batch", y.isSound(), true);
        write(y, 1, "ends", 0, 3);
        EXPECT.same("39 another end is another work", y.isSound(), false);
    }

    /** Works of one tool at one time are one batch if route, step, beginning and end are the same. */
    private static void promise39OtherBatches() throws ReflectiveOperationException {
        WaferYard x = new WaferYard();
        Yards.route(x, Yards.step(0, 2), Yards.step(0, 2));
        Yards.route(x, Yards.step(0, 2), Yards.step(0, 2));
        Yards.tool(x, 0);
        for (int lot = 0; lot < 3; lot++) {
            x.start(lot / 2, 1, 0);
        }
        Yards.passTo(x, 40);
        for (int lot = 0; lot < 3; lot++) {
            EXPECT.same("39 two steps", x.records(lot), 2);
            put(x, lot, 0, 100 * lot, 100 * lot + 4);
            put(x, lot, 1, 100 * lot + 50, 100 * lot + 54);
        }
        EXPECT.same("39 far from each other", x.isSound(), true);
        put(x, 1, 0, 0, 4);
        EXPECT.same("39 one batch", x.isSound(), true);
        put(x, 1, 0, 1, 4);
        EXPECT.same("39 another beginning", x.isSound(), false);
        put(x, 1, 0, 0, 5);
        EXPECT.same("39 another end", x.isSound(), false);
        put(x, 1, 0, 50, 54);
        EXPECT.same("39 another step", x.isSound(), false);
        put(x, 1, 0, 100, 104);
        EXPECT.same("39 far again", x.isSound(), true);
        put(x, 2, 0, 0, 4);
        EXPECT.same("39 another route", x.isSound(), false);
    }

    private static void put(WaferYard x, int lot, int row, int begin, int end) throws ReflectiveOperationException {
        write(x, lot, "begins", row, begin);
        write(x, lot, "ends", row, end);
    }

    private static void promise39Late() throws ReflectiveOperationException {
        WaferYard x = threeSteps();
        int end = x.recordAt(0, 0, 'e');
        write(x, 0, "tools", 2, 2);
        for (int late = 9; late <= 10; late++) {
            write(x, 0, "begins", 1, end + late);
            write(x, 0, "ends", 1, end + late + 2);
            write(x, 0, "begins", 2, end + late + 2);
            write(x, 0, "ends", 2, end + late + 4);
            write(x, 1, "ends", 1, end + 30);
            write(x, 1, "begins", 1, end + 28);
            write(x, 1, "begins", 2, end + 40);
            write(x, 1, "ends", 2, end + 44);
            write(x, 1, "betweens", 1, 1);
            EXPECT.same("39 begun " + late + " behind", x.isSound(), late == 9);
        }
        write(x, 0, "betweens", 1, 1);
        EXPECT.same("39 held between", x.isSound(), true);
        promise39LateByRework();
    }

    /** The first step has a limit of 3, and comes again 16 ticks behind its end. */
    private static void promise39LateByRework() throws ReflectiveOperationException {
        WaferYard x = new WaferYard();
        Yards.route(x, Yards.limited(0, 1, 3), Yards.step(0, 1));
        Yards.tool(x, 0);
        x.start(0, 1, 0);
        Yards.passTo(x, 20);
        EXPECT.same("39 two steps", x.records(0), 2);
        write(x, 0, "steps", 1, 0);
        put(x, 0, 1, 19, 22);
        EXPECT.same("39 the step again, and late", x.isSound(), false);
        write(x, 0, "betweens", 1, 2);
        EXPECT.same("39 reworked between", x.isSound(), true);
    }
}
