import java.util.NoSuchElementException;

/** The part "Terms": how a tick goes, in its five parts (promises 8 and 15). */
public final class TickTest {
    private static final Class<NoSuchElementException> NONE = NoSuchElementException.class;
    private static final Expect EXPECT = new Expect();

    public static void main(String[] args) {
        endsBatches();
        endsByNumbersOfTools();
        setsLimits();
        holdsLateLots();
        rests();
        restForgets();
        roundsHalves();
        excursionsAndReworkByAmount();
        reworksOnce();
        reworksNotBeforeTheFirst();
        reworksWithoutALimit();
        reworksNoLotThatIsElsewhere();
        excursionHoldsSinceTheGoodOne();
        excursionWithoutAGoodOne();
        excursionSparesOthers();
        trendAsksForRest();
        trendBeginsAnewAfterRest();
        correctsRestingTools();
        correctsRestedTools();
        measuresInOrderOfTools();
        EXPECT.end();
    }

    private static void endsBatches() {
        WaferYard x = new WaferYard();
        Yards.route(x, Yards.step(0, 2), Yards.step(1, 1));
        x.addTool(0, 2, 0, 50, 5, 3);
        for (int i = 0; i < 4; i++) {
            x.start(0, 10 + i, 0);
        }
        x.pass(1);
        EXPECT.same("two at once", x.toolOf(1), 0);
        EXPECT.same("no third", x.lotState(2), 'w');
        EXPECT.same("use comes at the end", x.useOf(0), 0);
        x.pass(3);
        EXPECT.same("with two ticks of setup", x.lotState(0), 't');
        EXPECT.same("no moves yet", x.moves(), 0);
        x.pass(1);
        EXPECT.same("waits for the next step", x.lotState(0), 'w');
        EXPECT.same("the next step", x.stepOf(0), 1);
        EXPECT.same("use by lots", x.useOf(0), 2);
        EXPECT.same("drift by batches", x.driftOf(0), 3);
        EXPECT.same("deviation before the drift", x.recordAt(1, 0, 'd'), 0);
        EXPECT.same("moves by wafers", x.moves(), 21);
        EXPECT.same("begins in the tick of the end", x.lotState(2), 't');
        x.pass(2);
        EXPECT.same("no setup again", x.recordAt(3, 0, 'e'), 6);
        EXPECT.same("begin", x.recordAt(3, 0, 'b'), 4);
        EXPECT.same("deviation", x.recordAt(3, 0, 'd'), 3);
        EXPECT.same("drift again", x.driftOf(0), 6);
        EXPECT.same("use again", x.useOf(0), 4);
    }

    /** Lots go on in the very tick of their end, in tools of any number. */
    private static void endsByNumbersOfTools() {
        WaferYard x = new WaferYard();
        Yards.route(x, Yards.step(1, 1), Yards.step(0, 1));
        Yards.tool(x, 0);
        Yards.tool(x, 1);
        x.start(0, 1, 0);
        x.pass(4);
        EXPECT.same("in the first tool", x.toolOf(0), 0);
        x.pass(3);
        EXPECT.same("begin of the second step", x.recordAt(0, 1, 'b'), 3);
        EXPECT.same("end of the second step", x.recordAt(0, 1, 'e'), 6);
    }

    private static void setsLimits() {
        WaferYard x = new WaferYard();
        Yards.route(x, Yards.limited(0, 1, 4), Yards.limited(1, 1, 5));
        Yards.tool(x, 0);
        x.addTool(1, 2, 2, 50, 1, 0);
        x.start(0, 1, 0);
        x.pass(3);
        EXPECT.thrown("no limit in the tool", NONE, () -> x.limitOf(0));
        x.pass(1);
        EXPECT.same("end plus limit", x.limitOf(0), 7);
        x.pass(2);
        EXPECT.same("begun", x.toolOf(0), 1);
        EXPECT.thrown("no limit when begun", NONE, () -> x.limitOf(0));
        x.pass(4);
        EXPECT.same("done", x.lotState(0), 'd');
        EXPECT.thrown("no limit behind the last step", NONE, () -> x.limitOf(0));
    }

    private static void holdsLateLots() {
        WaferYard x = new WaferYard();
        Yards.route(x, Yards.limited(0, 1, 5), Yards.step(1, 1));
        Yards.tool(x, 0);
        x.addTool(1, 1, 0, 50, 9, 0);
        x.start(0, 1, 0);
        x.pass(1);
        x.askRest(1);
        Yards.passTo(x, 9);
        EXPECT.same("in the tick of the limit it waits", x.lotState(0), 'w');
        EXPECT.same("its limit", x.limitOf(0), 8);
        x.pass(1);
        EXPECT.same("held one tick later", x.lotState(0), 'h');
        EXPECT.same("by a limit", x.causeOf(0), 'q');
        EXPECT.thrown("has no limit then", NONE, () -> x.limitOf(0));
        EXPECT.same("held at its step", x.stepOf(0), 1);
        Yards.passTo(x, 12);
        EXPECT.same("stays held", x.lotState(0), 'h');
        beginsInTheTickOfItsLimit();
    }

    private static void beginsInTheTickOfItsLimit() {
        WaferYard x = new WaferYard();
        Yards.route(x, Yards.limited(0, 1, 7), Yards.step(1, 1));
        Yards.tool(x, 0);
        x.addTool(1, 1, 0, 50, 9, 0);
        x.start(0, 1, 0);
        x.pass(1);
        x.askRest(1);
        Yards.passTo(x, 11);
        EXPECT.same("rested up to 10, begun at 10", x.toolOf(0), 1);
    }

    private static void rests() {
        WaferYard x = new WaferYard();
        Yards.route(x, Yards.step(0, 1));
        x.addTool(0, 2, 0, 3, 4, 1);
        for (int i = 0; i < 6; i++) {
            x.start(0, 1, 0);
        }
        Yards.passTo(x, 4);
        EXPECT.same("two of three", x.toolState(0), 'p');
        x.pass(1);
        EXPECT.same("four are at least three", x.toolState(0), 'r');
        EXPECT.same("its use while it rests", x.useOf(0), 4);
        EXPECT.same("its drift while it rests", x.driftOf(0), 2);
        EXPECT.same("its setup while it rests", x.setupOf(0), 0);
        Yards.passTo(x, 8);
        EXPECT.same("up to 8", x.toolState(0), 'r');
        EXPECT.same("others wait", x.lotState(4), 'w');
        x.pass(1);
        EXPECT.same("begins in the tick in which the rest ends", x.lotState(4), 't');
        EXPECT.same("no use", x.useOf(0), 0);
        EXPECT.same("no drift", x.driftOf(0), 0);
        x.pass(3);
        EXPECT.same("had no setup", x.recordAt(4, 0, 'e'), 11);
    }

    private static void restForgets() {
        WaferYard x = new WaferYard();
        Yards.route(x, Yards.measured(0, 1));
        x.addTool(0, 1, 0, 50, 2, 4);
        x.start(0, 1, 0);
        x.start(0, 1, 0);
        Yards.passTo(x, 8);
        EXPECT.same("corrected", x.correction(0, 0, 0), -2);
        x.askRest(0);
        x.pass(1);
        EXPECT.same("correction while it rests", x.correction(0, 0, 0), -2);
        EXPECT.same("told while it rests", x.askRest(0), false);
        x.pass(2);
        EXPECT.same("idle", x.toolState(0), 'i');
        EXPECT.same("no correction", x.correction(0, 0, 0), 0);
        EXPECT.thrown("no setup", NONE, () -> x.setupOf(0));
        EXPECT.same("measures are not forgotten", x.measures(0), 2);
        EXPECT.same("needs none", x.askRest(0), true);
    }

    /** The second lot's deviation is the shift. */
    private static void roundsHalves() {
        int[] halves = {0, 0, 1, 2, 2, 2, 3, 4, 4, 4};
        for (int shift = -9; shift <= 9; shift++) {
            WaferYard x = new WaferYard();
            Yards.route(x, Yards.measured(0, 1));
            Yards.drifting(x, 0, shift);
            x.start(0, 1, 0);
            x.start(0, 1, 0);
            Yards.passTo(x, 7);
            EXPECT.same("first measure", x.measures(0), 1);
            EXPECT.same("of no deviation", x.correction(0, 0, 0), 0);
            x.pass(1);
            EXPECT.same("second measure", x.measures(0), 2);
            int half = shift < 0 ? -halves[-shift] : halves[shift];
            EXPECT.same("less by half of " + shift, x.correction(0, 0, 0), -half);
        }
    }

    private static void excursionsAndReworkByAmount() {
        for (int sign = -1; sign <= 1; sign += 2) {
            for (int count : new int[] {5, 6, 10, 11}) {
                WaferYard x = Yards.aheadOfMeasure(count, sign, 1);
                x.setQualified(0, 1, 0, false);
                String what = "deviation " + sign * count + ": ";
                EXPECT.same(what + "told", x.recordAt(count, 0, 'd'), sign * count);
                EXPECT.same(what + "no measure yet", x.measures(0), 0);
                EXPECT.same(what + "waits for the next", x.stepOf(count), 1);
                x.pass(1);
                EXPECT.same(what + "measure", x.measures(0), 1);
                EXPECT.same(what + "excursions", x.excursions(), count > 10 ? 1 : 0);
                EXPECT.same(what + "state", x.lotState(count), count > 10 ? 'h' : 'w');
                EXPECT.same(what + "step", x.stepOf(count), count > 5 && count <= 10 ? 0 : 1);
                EXPECT.same(what + "tool", x.toolState(0), count > 10 ? 'r' : 'i');
            }
        }
        WaferYard y = Yards.aheadOfMeasure(8, 1, 0);
        y.pass(1);
        EXPECT.same("not reworked by none", y.stepOf(8), 1);
    }

    /** Deviation 9, correction -4, then 10 - 4 = 6, which is far off again. */
    private static void reworksOnce() {
        WaferYard x = Yards.aheadOfMeasure(9, 1, 1);
        x.pass(1);
        EXPECT.same("back in the tool at once", x.lotState(9), 't');
        EXPECT.same("at the step again", x.stepOf(9), 0);
        x.pass(1);
        EXPECT.same("ended again", x.recordAt(9, 1, 's'), 0);
        EXPECT.same("far off again", x.recordAt(9, 1, 'd'), 6);
        EXPECT.same("waits for the next again", x.stepOf(9), 1);
        Yards.passTo(x, 30);
        EXPECT.same("measured again", x.measures(0), 2);
        EXPECT.same("not reworked again", x.stepOf(9), 1);
        EXPECT.same("two records", x.records(9), 2);
        EXPECT.same("sound", x.isSound(), true);
    }

    private static void reworksNotBeforeTheFirst() {
        WaferYard x = Yards.aheadOfMeasure(7, 1, 3);
        x.setQualified(0, 1, 0, false);
        x.pass(1);
        EXPECT.same("not before 0", x.stepOf(7), 0);
        WaferYard y = new WaferYard();
        Yards.route(y, Yards.step(2, 1), Yards.step(0, 1), Yards.step(0, 1), Yards.measured(0, 1), Yards.step(3, 1));
        y.setRework(0, 3, 2);
        Yards.tool(y, 2);
        Yards.drifting(y, 0, 4);
        y.start(0, 1, 0);
        // Ends at 3, 6, 9 and 12, in the drift 8; the measure comes at 15.
        Yards.passTo(y, 15);
        EXPECT.same("waits behind", y.stepOf(0), 4);
        EXPECT.same("off by eight", y.recordAt(0, 3, 'd'), 8);
        y.askRest(1);
        y.pass(1);
        EXPECT.same("two earlier than the one for which it waits", y.stepOf(0), 2);
        EXPECT.same("from this tick on", y.lotState(0), 'w');
        Yards.passTo(y, 60);
        EXPECT.same("steps again", y.recordAt(0, 4, 's'), 2);
        EXPECT.same("the next of them", y.recordAt(0, 5, 's'), 3);
        EXPECT.same("sound", y.isSound(), true);
    }

    /** The lot waits with a limit behind the measured step, for a tool that is patient. */
    private static void reworksWithoutALimit() {
        WaferYard x = new WaferYard();
        Yards.route(x, Yards.step(0, 1));
        Yards.route(x, new int[] {0, 1, 8, -1, 1}, Yards.step(1, 1));
        x.setRework(1, 0, 1);
        Yards.drifting(x, 0, 7);
        x.addTool(1, 2, 9, 50, 1, 0);
        x.start(0, 1, 0);
        x.start(1, 1, 0);
        Yards.passTo(x, 9);
        EXPECT.same("limit", x.limitOf(1), 14);
        x.setQualified(0, 1, 0, false);
        x.pass(1);
        EXPECT.same("reworked", x.stepOf(1), 0);
        EXPECT.thrown("without a limit", NONE, () -> x.limitOf(1));
        Yards.passTo(x, 20);
        EXPECT.same("not held by the old limit", x.lotState(1), 'w');
        x.setQualified(0, 1, 0, true);
        Yards.passTo(x, 22);
        EXPECT.same("a new limit", x.limitOf(1), 29);
        waitsAnewWhenReworked();
    }

    private static void waitsAnewWhenReworked() {
        WaferYard x = new WaferYard();
        Yards.route(x, Yards.measured(0, 1), Yards.step(1, 1));
        x.setRework(0, 0, 1);
        x.addTool(0, 2, 5, 50, 1, 7);
        x.start(0, 1, 0);
        x.start(0, 1, 0);
        x.start(0, 1, 0);
        // Two begin at 0 and end at 3; the third begins at 5, with its patience, and ends at 6.
        Yards.passTo(x, 9);
        EXPECT.same("off by seven", x.recordAt(2, 0, 'd'), 7);
        x.pass(1);
        EXPECT.same("reworked at 9", x.stepOf(2), 0);
        EXPECT.same("its first two are not", x.stepOf(0), 1);
        Yards.passTo(x, 14);
        EXPECT.same("waits from 9 on", x.lotState(2), 'w');
        x.pass(1);
        EXPECT.same("begins at 14", x.lotState(2), 't');
    }

    private static void reworksNoLotThatIsElsewhere() {
        WaferYard held = Yards.aheadOfMeasure(7, 1, 1);
        held.hold(7);
        held.pass(1);
        EXPECT.same("a held one stays", held.stepOf(7), 1);
        held.release(7);
        held.pass(5);
        EXPECT.same("and is not reworked later", held.stepOf(7), 1);
        WaferYard gone = Yards.aheadOfMeasure(7, 1, 1);
        gone.scrap(7, 5);
        gone.pass(1);
        EXPECT.same("a scrapped one stays", gone.stepOf(7), 1);
        WaferYard merged = Yards.aheadOfMeasure(7, 1, 1);
        merged.setQualified(0, 1, 0, false);
        int part = merged.split(7, 2);
        merged.merge(part, 7);
        merged.pass(1);
        EXPECT.same("the part stays", merged.stepOf(part), 1);
        WaferYard split = Yards.aheadOfMeasure(7, 1, 1);
        split.setQualified(0, 1, 0, false);
        split.split(7, 2);
        split.pass(1);
        EXPECT.same("the first lot is reworked", split.stepOf(7), 0);
        EXPECT.same("its part is not", split.stepOf(8), 1);
        WaferYard late = new WaferYard();
        Yards.route(late, Yards.step(0, 1));
        Yards.route(late, Yards.measured(0, 1), Yards.step(1, 9));
        late.setRework(1, 0, 1);
        Yards.drifting(late, 0, 7);
        Yards.tool(late, 1);
        late.start(0, 1, 0);
        late.start(1, 1, 0);
        Yards.passTo(late, 10);
        EXPECT.same("one in the next tool works on", late.toolOf(1), 1);
        EXPECT.same("at the next step", late.stepOf(1), 1);
        EXPECT.same("the measure came", late.measures(0), 1);
    }

    /** Deviations 0, 4, 8, 12, 16, 18, 18 of ends at 3 to 9; the measure of 12 comes at 9. */
    private static void excursionHoldsSinceTheGoodOne() {
        WaferYard x = new WaferYard();
        Yards.route(x, Yards.measured(0, 1), Yards.step(1, 1));
        Yards.drifting(x, 0, 4);
        for (int i = 0; i < 9; i++) {
            x.start(0, 1, 0);
        }
        Yards.passTo(x, 9);
        EXPECT.same("three good ones", x.measures(0), 3);
        EXPECT.same("none is held", x.lotState(5), 'w');
        x.hold(4);
        EXPECT.same("works", x.toolState(0), 'p');
        x.pass(1);
        int[] deviations = {0, 4, 8, 12, 16, 18, 18};
        for (int i = 0; i < 7; i++) {
            EXPECT.same("deviation of " + i, x.recordAt(i, 0, 'd'), deviations[i]);
            EXPECT.same("lot " + i, x.lotState(i), i < 3 ? 'w' : 'h');
            if (i >= 3) {
                EXPECT.same("cause of " + i, x.causeOf(i), i == 4 ? 'o' : 'e');
            }
        }
        EXPECT.same("one excursion", x.excursions(), 1);
        EXPECT.same("corrected first", x.correction(0, 0, 0), -12);
        EXPECT.same("rests in this tick", x.toolState(0), 'r');
        EXPECT.same("the rest is not begun", x.lotState(7), 'w');
        x.pass(3);
        EXPECT.same("more excursions while it rests", x.excursions(), 4);
        EXPECT.same("corrected while it rests", x.correction(0, 0, 0), -38);
        EXPECT.same("earlier ones are spared", x.lotState(2), 'w');
    }

    /** Twelve lots drift the tool; two lots of the measured step are both behind no good one. */
    private static void excursionWithoutAGoodOne() {
        WaferYard x = new WaferYard();
        Yards.route(x, Yards.step(0, 1), Yards.step(2, 1));
        Yards.route(x, Yards.measured(0, 1), Yards.step(2, 1));
        x.addTool(0, 1, 0, 50, 9, 1);
        for (int i = 0; i < 11; i++) {
            x.start(0, 1, 0);
        }
        x.start(1, 1, 0);
        x.start(1, 1, 0);
        x.start(1, 1, 0);
        // The lots 11, 12 and 13 end at 16, 17 and 18; the first measure comes at 19.
        Yards.passTo(x, 19);
        EXPECT.same("ended", x.records(13), 1);
        x.hold(13);
        x.pass(1);
        EXPECT.same("the first", x.causeOf(11), 'e');
        EXPECT.same("the one behind", x.causeOf(12), 'e');
        EXPECT.same("held ones stay by a call", x.causeOf(13), 'o');
        for (int i = 0; i < 11; i++) {
            EXPECT.same("another route's step", x.lotState(i), 'w');
        }
    }

    /** Two tools of a kind: only the lots of the one with the excursion are held. */
    private static void excursionSparesOthers() {
        WaferYard x = new WaferYard();
        Yards.route(x, Yards.measured(0, 1), Yards.step(2, 1));
        x.addTool(0, 1, 0, 50, 9, 9);
        x.addTool(0, 1, 0, 50, 9, 0);
        for (int i = 0; i < 7; i++) {
            x.start(0, 1, 0);
        }
        // The lots 0, 2 and 4 pass the first tool, at 3, 4 and 5: 0, 9 and 18.
        Yards.passTo(x, 8);
        EXPECT.same("the third's deviation", x.recordAt(4, 0, 'd'), 18);
        EXPECT.same("the first tool's next", x.recordAt(6, 0, 't'), 0);
        x.pass(1);
        EXPECT.same("held", x.lotState(4), 'h');
        EXPECT.same("held behind", x.lotState(6), 'h');
        EXPECT.same("good before", x.lotState(2), 'w');
        EXPECT.same("other tool", x.lotState(5), 'w');
        EXPECT.same("other tool too", x.lotState(3), 'w');
    }

    /** Deviations 0, 1, 2, 3, 4 are measured at 6 to 10; the four above 0 ask for a rest. */
    private static void trendAsksForRest() {
        for (int shift = -1; shift <= 1; shift++) {
            WaferYard x = new WaferYard();
            Yards.route(x, Yards.measured(0, 1));
            Yards.drifting(x, 0, shift);
            for (int i = 0; i < 16; i++) {
                x.start(0, 1, 0);
            }
            Yards.passTo(x, 10);
            EXPECT.same("works on, shift " + shift, x.toolState(0), 'p');
            EXPECT.same("four measures", x.measures(0), 4);
            x.pass(1);
            EXPECT.same("five measures", x.measures(0), 5);
            EXPECT.same("rests but for shift 0: " + shift, x.toolState(0), shift == 0 ? 'p' : 'r');
        }
        ofWhateverSteps();
        zeroIsNeither();
    }

    /** Measures 4, 5 and 6 at 12 to 14 correct by 7, so that 0 and 1 follow at 19 and 20. */
    private static void zeroIsNeither() {
        WaferYard x = new WaferYard();
        Yards.route(x, Yards.step(0, 1));
        Yards.route(x, Yards.measured(0, 1));
        Yards.drifting(x, 0, 1);
        for (int i = 0; i < 7; i++) {
            x.start(i < 4 ? 0 : 1, 1, 0);
        }
        Yards.passTo(x, 15);
        EXPECT.same("three measures", x.measures(0), 3);
        EXPECT.same("corrected by seven", x.correction(0, 1, 0), -7);
        x.start(1, 1, 0);
        x.start(1, 1, 0);
        Yards.passTo(x, 21);
        EXPECT.same("two more", x.measures(0), 5);
        EXPECT.same("of 0", x.recordAt(7, 0, 'd'), 0);
        EXPECT.same("and of 1", x.recordAt(8, 0, 'd'), 1);
        EXPECT.same("four above 0, but not the last four", x.toolState(0), 'i');
    }

    /** Two measured steps in turn: 1, 2, 3, 4 behind a 0. */
    private static void ofWhateverSteps() {
        WaferYard x = new WaferYard();
        Yards.route(x, Yards.measured(0, 1), Yards.measured(0, 1), Yards.measured(0, 1), Yards.measured(0, 1),
                Yards.measured(0, 1));
        Yards.drifting(x, 0, 1);
        x.start(0, 1, 0);
        // Ends at 3, 6, 9, 12 and 15, measures at 6, 9, 12, 15 and 18.
        Yards.passTo(x, 18);
        EXPECT.same("four measures", x.measures(0), 4);
        EXPECT.same("the fifth deviation", x.recordAt(0, 4, 'd'), 4);
        EXPECT.same("three above 0", x.toolState(0), 'i');
        x.pass(1);
        EXPECT.same("four above 0", x.toolState(0), 'r');
    }

    private static void trendBeginsAnewAfterRest() {
        WaferYard x = new WaferYard();
        Yards.route(x, Yards.measured(0, 1));
        x.addTool(0, 1, 0, 50, 3, 1);
        for (int i = 0; i < 4; i++) {
            x.start(0, 1, 0);
        }
        // Measures 0, 1, 2, 3 at 6 to 9; then a rest from 10 to 13.
        Yards.passTo(x, 10);
        EXPECT.same("four measures", x.measures(0), 4);
        x.askRest(0);
        x.pass(1);
        EXPECT.same("rests", x.toolState(0), 'r');
        for (int i = 0; i < 5; i++) {
            x.start(0, 1, 0);
        }
        // Ends at 16 to 20 with 0, 1, 2, 3 and 4; measures at 19 to 23.
        Yards.passTo(x, 23);
        EXPECT.same("measures 0, 1, 2, 3", x.measures(0), 8);
        EXPECT.same("three above 0 since the rest", x.toolState(0), 'i');
        x.pass(1);
        EXPECT.same("four above 0 since the rest", x.toolState(0), 'r');
        notByMeasuresInTheRest();
    }

    /** Three measures above 0 come while the tool rests, and do not count behind the rest. */
    private static void notByMeasuresInTheRest() {
        WaferYard x = new WaferYard();
        Yards.route(x, Yards.measured(0, 1));
        Yards.route(x, Yards.step(0, 1));
        x.addTool(0, 1, 0, 4, 9, 1);
        for (int i = 0; i < 4; i++) {
            x.start(0, 1, 0);
        }
        // Ends at 3 to 6 with 0, 1, 2, 3; rests from 6 to 15, measures at 6 to 9.
        Yards.passTo(x, 15);
        EXPECT.same("came while it rests", x.measures(0), 4);
        x.start(1, 1, 0);
        x.start(0, 1, 0);
        // Ends at 18 and 21 with 0 and 1; the measure comes at 24.
        Yards.passTo(x, 25);
        EXPECT.same("came behind the rest", x.measures(0), 5);
        EXPECT.same("above 0", x.recordAt(5, 0, 'd'), 1);
        EXPECT.same("one alone since the rest", x.toolState(0), 'i');
    }

    private static void correctsRestingTools() {
        WaferYard x = new WaferYard();
        Yards.route(x, Yards.measured(0, 1));
        x.addTool(0, 1, 0, 2, 9, 8);
        x.start(0, 1, 0);
        x.start(0, 1, 0);
        Yards.passTo(x, 8);
        EXPECT.same("rests", x.toolState(0), 'r');
        EXPECT.same("corrected while it rests", x.correction(0, 0, 0), -4);
        Yards.passTo(x, 14);
        EXPECT.same("forgotten by the rest", x.correction(0, 0, 0), 0);
    }

    /** The rest ends at 5, the measures of 0 and 12 come at 6 and 7. */
    private static void correctsRestedTools() {
        WaferYard x = new WaferYard();
        Yards.route(x, Yards.step(0, 1));
        Yards.route(x, Yards.measured(0, 1), Yards.step(1, 1));
        x.addTool(0, 1, 0, 3, 1, 6);
        x.start(0, 1, 0);
        x.start(0, 1, 0);
        x.start(1, 1, 0);
        // Ends at 3, 4 and 7; rests from 7 to 8; the measure of 12 comes at 10.
        Yards.passTo(x, 10);
        EXPECT.same("rested", x.toolState(0), 'i');
        EXPECT.same("no drift", x.driftOf(0), 0);
        x.pass(1);
        EXPECT.same("told so", x.toolState(0), 'r');
        EXPECT.same("corrected", x.correction(0, 1, 0), -6);
        EXPECT.same("held", x.causeOf(2), 'e');
    }

    /** In one tick the first tool's good measure counts for its own lots alone. */
    private static void measuresInOrderOfTools() {
        WaferYard x = new WaferYard();
        Yards.route(x, Yards.measured(0, 1), Yards.step(2, 1));
        x.setRework(0, 0, 1);
        Yards.drifting(x, 0, 9);
        Yards.drifting(x, 0, -9);
        for (int i = 0; i < 6; i++) {
            x.start(0, 1, 0);
        }
        // 0 and 1 end at 3 with 0; 2 and 3 at 4 with 9 and -9; 4 and 5 at 5 with 18 and -18.
        Yards.passTo(x, 7);
        x.setQualified(0, 0, 0, false);
        x.setQualified(1, 0, 0, false);
        x.pass(1);
        EXPECT.same("reworked by the first tool", x.stepOf(2), 0);
        EXPECT.same("reworked by the second tool", x.stepOf(3), 0);
        EXPECT.same("correction of the first", x.correction(0, 0, 0), -4);
        EXPECT.same("correction of the second", x.correction(1, 0, 0), 4);
        x.pass(1);
        EXPECT.same("two excursions", x.excursions(), 2);
        EXPECT.same("of the first", x.lotState(4), 'h');
        EXPECT.same("of the second", x.lotState(5), 'h');
        EXPECT.same("good by its own tool", x.lotState(2), 'w');
        EXPECT.same("good by the other tool", x.lotState(3), 'w');
    }
}
