import java.util.NoSuchElementException;

/** The part "Terms", the third part of a tick: corrections, excursions, rework and what tells a tool to rest. */
public final class MeasureTest {
    private static final Class<NoSuchElementException> NONE = NoSuchElementException.class;
    private static final Expect EXPECT = new Expect();

    public static void main(String[] args) {
        roundsHalves();
        excursionsAndReworkByAmount();
        reworksOnce();
        reworksNotBeforeTheFirst();
        reworksWithoutALimit();
        reworksNoLotThatIsElsewhere();
        excursionHoldsSinceTheGoodOne();
        excursionWithoutAGoodOne();
        excursionSparesOthers();
        trendAsksForRest();
        trendBeginsAnewAfterRest();
        correctsRestingTools();
        correctsRestedTools();
        measuresInOrderOfTools();
        firstToolsMeasureComesFirst();
        measuresTheLotWithTheLowestNumber();
        measuresAsLateAsToldOfWhateverLot();
        goodOneOfTheSameBatchSpares();
        goodOneOfAnotherStepDoesNotSpare();
        goodOneOfAnotherToolDoesNotSpare();
        anotherStepOfTheRouteIsSpared();
        latestGoodOneCounts();
        restKeepsTheLatestGoodOne();
        holdsWhoeverWaits();
        holdsAtWhateverStep();
        holdsByTheLotsOwnRecord();
        reworksOnlyBehindTheStep();
        reworksOnceByWhateverStep();
        reworksOnceThoughItWasHeld();
        reworksByEachNumberOfSteps();
        reworksAheadOfBeginnings();
        trendOfOneSignAlone();
        trendBeginsAnewAtZero();
        EXPECT.end();
    }

    /** The second lot's deviation is the shift. */
    private static void roundsHalves() {
        int[] halves = {0, 0, 1, 2, 2, 2, 3, 4, 4, 4};
        for (int shift = -9; shift <= 9; shift++) {
            WaferYard x = new WaferYard();
            Yards.route(x, Yards.measured(0, 1));
            Yards.drifting(x, 0, shift);
            x.start(0, 1, 0);
            x.start(0, 1, 0);
            Yards.passTo(x, 7);
            EXPECT.same("first measure", x.measures(0), 1);
            EXPECT.same("of no deviation", x.correction(0, 0, 0), 0);
            x.pass(1);
            EXPECT.same("second measure", x.measures(0), 2);
            int half = shift < 0 ? -halves[-shift] : halves[shift];
            EXPECT.same("less by half of " + shift, x.correction(0, 0, 0), -half);
        }
    }

    private static void excursionsAndReworkByAmount() {
        for (int sign = -1; sign <= 1; sign += 2) {
            for (int count : new int[] {5, 6, 10, 11}) {
                WaferYard x = Yards.aheadOfMeasure(count, sign, 1);
                x.setQualified(0, 1, 0, false);
                String what = "deviation " + sign * count + ": ";
                EXPECT.same(what + "told", x.recordAt(count, 0, 'd'), sign * count);
                EXPECT.same(what + "no measure yet", x.measures(0), 0);
                EXPECT.same(what + "waits for the next", x.stepOf(count), 1);
                x.pass(1);
                EXPECT.same(what + "measure", x.measures(0), 1);
                EXPECT.same(what + "excursions", x.excursions(), count > 10 ? 1 : 0);
                EXPECT.same(what + "state", x.lotState(count), count > 10 ? 'h' : 'w');
                EXPECT.same(what + "step", x.stepOf(count), count > 5 && count <= 10 ? 0 : 1);
                EXPECT.same(what + "tool", x.toolState(0), count > 10 ? 'r' : 'i');
            }
        }
        WaferYard y = Yards.aheadOfMeasure(8, 1, 0);
        y.pass(1);
        EXPECT.same("not reworked by none", y.stepOf(8), 1);
    }

    /** Deviation 9, correction -4, then 10 - 4 = 6, which is far off again. */
    private static void reworksOnce() {
        WaferYard x = Yards.aheadOfMeasure(9, 1, 1);
        x.pass(1);
        EXPECT.same("back in the tool at once", x.lotState(9), 't');
        EXPECT.same("at the step again", x.stepOf(9), 0);
        x.pass(1);
        EXPECT.same("ended again", x.recordAt(9, 1, 's'), 0);
        EXPECT.same("far off again", x.recordAt(9, 1, 'd'), 6);
        EXPECT.same("waits for the next again", x.stepOf(9), 1);
        Yards.passTo(x, 30);
        EXPECT.same("measured again", x.measures(0), 2);
        EXPECT.same("not reworked again", x.stepOf(9), 1);
        EXPECT.same("two records", x.records(9), 2);
        EXPECT.same("sound", x.isSound(), true);
    }

    private static void reworksNotBeforeTheFirst() {
        WaferYard x = Yards.aheadOfMeasure(7, 1, 3);
        x.setQualified(0, 1, 0, false);
        x.pass(1);
        EXPECT.same("not before 0", x.stepOf(7), 0);
        WaferYard y = new WaferYard();
        Yards.route(y, Yards.step(2, 1), Yards.step(0, 1), Yards.step(0, 1), Yards.measured(0, 1), Yards.step(3, 1));
        y.setRework(0, 3, 2);
        Yards.tool(y, 2);
        Yards.drifting(y, 0, 4);
        y.start(0, 1, 0);
        // Ends at 3, 6, 9 and 12, in the drift 8; the measure comes at 15.
        Yards.passTo(y, 15);
        EXPECT.same("waits behind", y.stepOf(0), 4);
        EXPECT.same("off by eight", y.recordAt(0, 3, 'd'), 8);
        y.askRest(1);
        y.pass(1);
        EXPECT.same("two earlier than the one for which it waits", y.stepOf(0), 2);
        EXPECT.same("from this tick on", y.lotState(0), 'w');
        Yards.passTo(y, 60);
        EXPECT.same("steps again", y.recordAt(0, 4, 's'), 2);
        EXPECT.same("the next of them", y.recordAt(0, 5, 's'), 3);
        EXPECT.same("sound", y.isSound(), true);
    }

    /** The lot waits with a limit behind the measured step, for a tool that is patient. */
    private static void reworksWithoutALimit() {
        WaferYard x = new WaferYard();
        Yards.route(x, Yards.step(0, 1));
        Yards.route(x, new int[] {0, 1, 8, -1, 1}, Yards.step(1, 1));
        x.setRework(1, 0, 1);
        Yards.drifting(x, 0, 7);
        x.addTool(1, 2, 9, 50, 1, 0);
        x.start(0, 1, 0);
        x.start(1, 1, 0);
        Yards.passTo(x, 9);
        EXPECT.same("limit", x.limitOf(1), 14);
        x.setQualified(0, 1, 0, false);
        x.pass(1);
        EXPECT.same("reworked", x.stepOf(1), 0);
        EXPECT.thrown("without a limit", NONE, () -> x.limitOf(1));
        Yards.passTo(x, 20);
        EXPECT.same("not held by the old limit", x.lotState(1), 'w');
        x.setQualified(0, 1, 0, true);
        Yards.passTo(x, 22);
        EXPECT.same("a new limit", x.limitOf(1), 29);
        waitsAnewWhenReworked();
    }

    private static void waitsAnewWhenReworked() {
        WaferYard x = new WaferYard();
        Yards.route(x, Yards.measured(0, 1), Yards.step(1, 1));
        x.setRework(0, 0, 1);
        x.addTool(0, 2, 5, 50, 1, 7);
        x.start(0, 1, 0);
        x.start(0, 1, 0);
        x.start(0, 1, 0);
        // Two begin at 0 and end at 3; the third begins at 5, with its patience, and ends at 6.
        Yards.passTo(x, 9);
        EXPECT.same("off by seven", x.recordAt(2, 0, 'd'), 7);
        x.pass(1);
        EXPECT.same("reworked at 9", x.stepOf(2), 0);
        EXPECT.same("its first two are not", x.stepOf(0), 1);
        Yards.passTo(x, 14);
        EXPECT.same("waits from 9 on", x.lotState(2), 'w');
        x.pass(1);
        EXPECT.same("begins at 14", x.lotState(2), 't');
    }

    private static void reworksNoLotThatIsElsewhere() {
        WaferYard held = Yards.aheadOfMeasure(7, 1, 1);
        held.hold(7);
        held.pass(1);
        EXPECT.same("a held one stays", held.stepOf(7), 1);
        held.release(7);
        held.pass(5);
        EXPECT.same("and is not reworked later", held.stepOf(7), 1);
        WaferYard gone = Yards.aheadOfMeasure(7, 1, 1);
        gone.scrap(7, 5);
        gone.pass(1);
        EXPECT.same("a scrapped one stays", gone.stepOf(7), 1);
        WaferYard merged = Yards.aheadOfMeasure(7, 1, 1);
        merged.setQualified(0, 1, 0, false);
        int part = merged.split(7, 2);
        merged.merge(part, 7);
        merged.pass(1);
        EXPECT.same("the part stays", merged.stepOf(part), 1);
        WaferYard split = Yards.aheadOfMeasure(7, 1, 1);
        split.setQualified(0, 1, 0, false);
        split.split(7, 2);
        split.pass(1);
        EXPECT.same("the first lot is reworked", split.stepOf(7), 0);
        EXPECT.same("its part is not", split.stepOf(8), 1);
        WaferYard late = new WaferYard();
        Yards.route(late, Yards.step(0, 1));
        Yards.route(late, Yards.measured(0, 1), Yards.step(1, 9));
        late.setRework(1, 0, 1);
        Yards.drifting(late, 0, 7);
        Yards.tool(late, 1);
        late.start(0, 1, 0);
        late.start(1, 1, 0);
        Yards.passTo(late, 10);
        EXPECT.same("one in the next tool works on", late.toolOf(1), 1);
        EXPECT.same("at the next step", late.stepOf(1), 1);
        EXPECT.same("the measure came", late.measures(0), 1);
    }

    /** Deviations 0, 4, 8, 12, 16, 18, 18 of ends at 3 to 9; the measure of 12 comes at 9. */
    private static void excursionHoldsSinceTheGoodOne() {
        WaferYard x = new WaferYard();
        Yards.route(x, Yards.measured(0, 1), Yards.step(1, 1));
        Yards.drifting(x, 0, 4);
        for (int i = 0; i < 9; i++) {
            x.start(0, 1, 0);
        }
        Yards.passTo(x, 9);
        EXPECT.same("three good ones", x.measures(0), 3);
        EXPECT.same("none is held", x.lotState(5), 'w');
        x.hold(4);
        EXPECT.same("works", x.toolState(0), 'p');
        x.pass(1);
        int[] deviations = {0, 4, 8, 12, 16, 18, 18};
        for (int i = 0; i < 7; i++) {
            EXPECT.same("deviation of " + i, x.recordAt(i, 0, 'd'), deviations[i]);
            EXPECT.same("lot " + i, x.lotState(i), i < 3 ? 'w' : 'h');
            if (i >= 3) {
                EXPECT.same("cause of " + i, x.causeOf(i), i == 4 ? 'o' : 'e');
            }
        }
        EXPECT.same("one excursion", x.excursions(), 1);
        EXPECT.same("corrected first", x.correction(0, 0, 0), -12);
        EXPECT.same("rests in this tick", x.toolState(0), 'r');
        EXPECT.same("the rest is not begun", x.lotState(7), 'w');
        x.pass(3);
        EXPECT.same("more excursions while it rests", x.excursions(), 4);
        EXPECT.same("corrected while it rests", x.correction(0, 0, 0), -38);
        EXPECT.same("earlier ones are spared", x.lotState(2), 'w');
    }

    /** Twelve lots drift the tool; two lots of the measured step are both behind no good one. */
    private static void excursionWithoutAGoodOne() {
        WaferYard x = new WaferYard();
        Yards.route(x, Yards.step(0, 1), Yards.step(2, 1));
        Yards.route(x, Yards.measured(0, 1), Yards.step(2, 1));
        x.addTool(0, 1, 0, 50, 9, 1);
        for (int i = 0; i < 11; i++) {
            x.start(0, 1, 0);
        }
        x.start(1, 1, 0);
        x.start(1, 1, 0);
        x.start(1, 1, 0);
        // The lots 11, 12 and 13 end at 16, 17 and 18; the first measure comes at 19.
        Yards.passTo(x, 19);
        EXPECT.same("ended", x.records(13), 1);
        x.hold(13);
        x.pass(1);
        EXPECT.same("the first", x.causeOf(11), 'e');
        EXPECT.same("the one behind", x.causeOf(12), 'e');
        EXPECT.same("held ones stay by a call", x.causeOf(13), 'o');
        for (int i = 0; i < 11; i++) {
            EXPECT.same("another route's step", x.lotState(i), 'w');
        }
    }

    /** Two tools of a kind: only the lots of the one with the excursion are held. */
    private static void excursionSparesOthers() {
        WaferYard x = new WaferYard();
        Yards.route(x, Yards.measured(0, 1), Yards.step(2, 1));
        x.addTool(0, 1, 0, 50, 9, 9);
        x.addTool(0, 1, 0, 50, 9, 0);
        for (int i = 0; i < 7; i++) {
            x.start(0, 1, 0);
        }
        // The lots 0, 2 and 4 pass the first tool, at 3, 4 and 5: 0, 9 and 18.
        Yards.passTo(x, 8);
        EXPECT.same("the third's deviation", x.recordAt(4, 0, 'd'), 18);
        EXPECT.same("the first tool's next", x.recordAt(6, 0, 't'), 0);
        x.pass(1);
        EXPECT.same("held", x.lotState(4), 'h');
        EXPECT.same("held behind", x.lotState(6), 'h');
        EXPECT.same("good before", x.lotState(2), 'w');
        EXPECT.same("other tool", x.lotState(5), 'w');
        EXPECT.same("other tool too", x.lotState(3), 'w');
    }

    /** Deviations 0, 1, 2, 3, 4 are measured at 6 to 10; the four above 0 ask for a rest. */
    private static void trendAsksForRest() {
        for (int shift = -1; shift <= 1; shift++) {
            WaferYard x = new WaferYard();
            Yards.route(x, Yards.measured(0, 1));
            Yards.drifting(x, 0, shift);
            for (int i = 0; i < 16; i++) {
                x.start(0, 1, 0);
            }
            Yards.passTo(x, 10);
            EXPECT.same("works on, shift " + shift, x.toolState(0), 'p');
            EXPECT.same("four measures", x.measures(0), 4);
            x.pass(1);
            EXPECT.same("five measures", x.measures(0), 5);
            EXPECT.same("rests but for shift 0: " + shift, x.toolState(0), shift == 0 ? 'p' : 'r');
        }
        ofWhateverSteps();
        zeroIsNeither();
    }

    /** Measures 4, 5 and 6 at 12 to 14 correct by 7, so that 0 and 1 follow at 19 and 20. */
    private static void zeroIsNeither() {
        WaferYard x = new WaferYard();
        Yards.route(x, Yards.step(0, 1));
        Yards.route(x, Yards.measured(0, 1));
        Yards.drifting(x, 0, 1);
        for (int i = 0; i < 7; i++) {
            x.start(i < 4 ? 0 : 1, 1, 0);
        }
        Yards.passTo(x, 15);
        EXPECT.same("three measures", x.measures(0), 3);
        EXPECT.same("corrected by seven", x.correction(0, 1, 0), -7);
        x.start(1, 1, 0);
        x.start(1, 1, 0);
        Yards.passTo(x, 21);
        EXPECT.same("two more", x.measures(0), 5);
        EXPECT.same("of 0", x.recordAt(7, 0, 'd'), 0);
        EXPECT.same("and of 1", x.recordAt(8, 0, 'd'), 1);
        EXPECT.same("four above 0, but not the last four", x.toolState(0), 'i');
    }

    /** Two measured steps in turn: 1, 2, 3, 4 behind a 0. */
    private static void ofWhateverSteps() {
        WaferYard x = new WaferYard();
        Yards.route(x, Yards.measured(0, 1), Yards.measured(0, 1), Yards.measured(0, 1), Yards.measured(0, 1),
                Yards.measured(0, 1));
        Yards.drifting(x, 0, 1);
        x.start(0, 1, 0);
        // Ends at 3, 6, 9, 12 and 15, measures at 6, 9, 12, 15 and 18.
        Yards.passTo(x, 18);
        EXPECT.same("four measures", x.measures(0), 4);
        EXPECT.same("the fifth deviation", x.recordAt(0, 4, 'd'), 4);
        EXPECT.same("three above 0", x.toolState(0), 'i');
        x.pass(1);
        EXPECT.same("four above 0", x.toolState(0), 'r');
    }

    private static void trendBeginsAnewAfterRest() {
        WaferYard x = new WaferYard();
        Yards.route(x, Yards.measured(0, 1));
        x.addTool(0, 1, 0, 50, 3, 1);
        for (int i = 0; i < 4; i++) {
            x.start(0, 1, 0);
        }
        // Measures 0, 1, 2, 3 at 6 to 9; then a rest from 10 to 13.
        Yards.passTo(x, 10);
        EXPECT.same("four measures", x.measures(0), 4);
        x.askRest(0);
        x.pass(1);
        EXPECT.same("rests", x.toolState(0), 'r');
        for (int i = 0; i < 5; i++) {
            x.start(0, 1, 0);
        }
        // Ends at 16 to 20 with 0, 1, 2, 3 and 4; measures at 19 to 23.
        Yards.passTo(x, 23);
        EXPECT.same("measures 0, 1, 2, 3", x.measures(0), 8);
        EXPECT.same("three above 0 since the rest", x.toolState(0), 'i');
        x.pass(1);
        EXPECT.same("four above 0 since the rest", x.toolState(0), 'r');
        notByMeasuresInTheRest();
    }

    /** Three measures above 0 come while the tool rests, and do not count behind the rest. */
    private static void notByMeasuresInTheRest() {
        WaferYard x = new WaferYard();
        Yards.route(x, Yards.measured(0, 1));
        Yards.route(x, Yards.step(0, 1));
        x.addTool(0, 1, 0, 4, 9, 1);
        for (int i = 0; i < 4; i++) {
            x.start(0, 1, 0);
        }
        // Ends at 3 to 6 with 0, 1, 2, 3; rests from 6 to 15, measures at 6 to 9.
        Yards.passTo(x, 15);
        EXPECT.same("came while it rests", x.measures(0), 4);
        x.start(1, 1, 0);
        x.start(0, 1, 0);
        // Ends at 18 and 21 with 0 and 1; the measure comes at 24.
        Yards.passTo(x, 25);
        EXPECT.same("came behind the rest", x.measures(0), 5);
        EXPECT.same("above 0", x.recordAt(5, 0, 'd'), 1);
        EXPECT.same("one alone since the rest", x.toolState(0), 'i');
    }

    private static void correctsRestingTools() {
        WaferYard x = new WaferYard();
        Yards.route(x, Yards.measured(0, 1));
        x.addTool(0, 1, 0, 2, 9, 8);
        x.start(0, 1, 0);
        x.start(0, 1, 0);
        Yards.passTo(x, 8);
        EXPECT.same("rests", x.toolState(0), 'r');
        EXPECT.same("corrected while it rests", x.correction(0, 0, 0), -4);
        Yards.passTo(x, 14);
        EXPECT.same("forgotten by the rest", x.correction(0, 0, 0), 0);
    }

    /** The rest ends at 5, the measures of 0 and 12 come at 6 and 7. */
    private static void correctsRestedTools() {
        WaferYard x = new WaferYard();
        Yards.route(x, Yards.step(0, 1));
        Yards.route(x, Yards.measured(0, 1), Yards.step(1, 1));
        x.addTool(0, 1, 0, 3, 1, 6);
        x.start(0, 1, 0);
        x.start(0, 1, 0);
        x.start(1, 1, 0);
        // Ends at 3, 4 and 7; rests from 7 to 8; the measure of 12 comes at 10.
        Yards.passTo(x, 10);
        EXPECT.same("rested", x.toolState(0), 'i');
        EXPECT.same("no drift", x.driftOf(0), 0);
        x.pass(1);
        EXPECT.same("told so", x.toolState(0), 'r');
        EXPECT.same("corrected", x.correction(0, 1, 0), -6);
        EXPECT.same("held", x.causeOf(2), 'e');
    }

    /** In one tick the first tool's good measure counts for its own lots alone. */
    private static void measuresInOrderOfTools() {
        WaferYard x = new WaferYard();
        Yards.route(x, Yards.measured(0, 1), Yards.step(2, 1));
        x.setRework(0, 0, 1);
        Yards.drifting(x, 0, 9);
        Yards.drifting(x, 0, -9);
        for (int i = 0; i < 6; i++) {
            x.start(0, 1, 0);
        }
        // 0 and 1 end at 3 with 0; 2 and 3 at 4 with 9 and -9; 4 and 5 at 5 with 18 and -18.
        Yards.passTo(x, 7);
        x.setQualified(0, 0, 0, false);
        x.setQualified(1, 0, 0, false);
        x.pass(1);
        EXPECT.same("reworked by the first tool", x.stepOf(2), 0);
        EXPECT.same("reworked by the second tool", x.stepOf(3), 0);
        EXPECT.same("correction of the first", x.correction(0, 0, 0), -4);
        EXPECT.same("correction of the second", x.correction(1, 0, 0), 4);
        x.pass(1);
        EXPECT.same("two excursions", x.excursions(), 2);
        EXPECT.same("of the first", x.lotState(4), 'h');
        EXPECT.same("of the second", x.lotState(5), 'h');
        EXPECT.same("good by its own tool", x.lotState(2), 'w');
        EXPECT.same("good by the other tool", x.lotState(3), 'w');
    }

    /**
     * The tool of the step A is far off from its first lot on, whose excursion is measured while the
     * lot is in the tool of the step B. Then the next lot of A and the first of B are measured in one
     * tick: the one holds the first lot, the other sends it back, if it is not held.
     */
    private static void firstToolsMeasureComesFirst() {
        for (int first = 0; first < 2; first++) {
            int a = first;
            int b = 1 - first;
            WaferYard x = new WaferYard();
            Yards.route(x, Yards.step(a, 1));
            Yards.route(x, Yards.step(b, 1));
            Yards.route(x, Yards.measured(a, 5), Yards.measured(b, 3), Yards.step(3, 1));
            x.setRework(2, 1, 1);
            Yards.drifting(x, 0, a == 0 ? 9 : 7);
            Yards.drifting(x, 1, a == 0 ? 7 : 9);
            x.start(0, 1, 0);
            x.start(0, 1, 0);
            x.start(1, 1, 0);
            x.start(2, 1, 0);
            x.start(2, 1, 0);
            Yards.passTo(x, 19);
            EXPECT.same("one excursion so far", x.excursions(), 1);
            EXPECT.same("ended the step A", x.recordAt(3, 0, 'e'), 11);
            EXPECT.same("ended the step B", x.recordAt(3, 1, 'e'), 16);
            EXPECT.same("the next one of A with it", x.recordAt(4, 0, 'e'), 16);
            EXPECT.same("off by seven", x.recordAt(3, 1, 'd'), 7);
            EXPECT.same("waits", x.lotState(3), 'w');
            x.setQualified(b, 2, 1, false);
            x.pass(1);
            EXPECT.same("two excursions", x.excursions(), 2);
            EXPECT.same("held", x.causeOf(3), 'e');
            EXPECT.same("held ahead of rework, if A is of the first tool", x.stepOf(3), a == 0 ? 2 : 1);
        }
    }

    /** The rule puts the lot 2 ahead of the lot 1; the measure is of the lot 1 all the same. */
    private static void measuresTheLotWithTheLowestNumber() {
        WaferYard x = new WaferYard();
        Yards.route(x, Yards.step(0, 1));
        Yards.route(x, Yards.measured(0, 1), Yards.step(3, 1));
        x.setRework(1, 0, 1);
        x.setRule('p', '-', '-', '-');
        x.addTool(0, 2, 0, 50, 9, 7);
        x.start(0, 1, 9);
        x.start(1, 1, 0);
        x.start(1, 1, 8);
        Yards.passTo(x, 9);
        EXPECT.same("one batch", x.recordAt(1, 0, 'b'), x.recordAt(2, 0, 'b'));
        EXPECT.same("off by seven", x.recordAt(2, 0, 'd'), 7);
        x.setQualified(0, 1, 0, false);
        x.pass(1);
        EXPECT.same("one measure a batch", x.measures(0), 1);
        EXPECT.same("the lowest number is reworked", x.stepOf(1), 0);
        EXPECT.same("the first by the rule is not", x.stepOf(2), 1);
    }

    /** Two batches; the first lot of the second is scrapped, merged or in a tool when its measure comes. */
    private static void measuresAsLateAsToldOfWhateverLot() {
        for (int fate = 0; fate < 3; fate++) {
            WaferYard x = new WaferYard();
            Yards.route(x, Yards.step(0, 1));
            Yards.route(x, Yards.measured(0, 1), Yards.step(1, 1));
            x.addTool(0, 2, 0, 50, 9, 9);
            x.start(0, 1, 0);
            x.start(1, 1, 0);
            x.start(1, 1, 0);
            Yards.passTo(x, 7);
            if (fate == 0) {
                x.scrap(1, 1);
            } else if (fate == 1) {
                x.merge(2, 1);
            } else {
                Yards.tool(x, 1);
                x.hold(2);
            }
            Yards.passTo(x, 9);
            EXPECT.same("not before 3 ticks", x.measures(0), 0);
            x.pass(1);
            EXPECT.same("3 ticks later, fate " + fate, x.measures(0), 1);
            EXPECT.same("corrected, fate " + fate, x.correction(0, 1, 0), -4);
            EXPECT.same("its lot is elsewhere, fate " + fate, x.lotState(1), "xmt".charAt(fate));
        }
    }

    /** Batches of two with 0, 9 and 18; the first lot of the second one is gone when its good measure comes. */
    private static void goodOneOfTheSameBatchSpares() {
        WaferYard x = new WaferYard();
        Yards.route(x, Yards.measured(0, 1), Yards.step(3, 1));
        x.addTool(0, 2, 0, 50, 9, 9);
        for (int i = 0; i < 6; i++) {
            x.start(0, 1, 0);
        }
        Yards.passTo(x, 6);
        x.scrap(2, 1);
        Yards.passTo(x, 9);
        EXPECT.same("one excursion", x.excursions(), 1);
        EXPECT.same("in the first good batch", x.lotState(1), 'w');
        EXPECT.same("in the batch of the latest good measure", x.lotState(3), 'w');
        EXPECT.same("in a later batch", x.lotState(4), 'h');
        EXPECT.same("in a later batch, too", x.lotState(5), 'h');
    }

    /** Behind an excursion a good measure of another step comes, then one more excursion of the step. */
    private static void goodOneOfAnotherStepDoesNotSpare() {
        WaferYard x = new WaferYard();
        Yards.route(x, Yards.step(0, 1));
        Yards.route(x, Yards.measured(0, 1), Yards.step(3, 1));
        Yards.route(x, Yards.measured(0, 1), Yards.step(3, 1));
        x.addTool(0, 1, 0, 50, 1, 9);
        x.start(0, 1, 0);
        x.start(0, 1, 0);
        x.start(1, 1, 0);
        Yards.passTo(x, 8);
        EXPECT.same("off by 18", x.recordAt(2, 0, 'd'), 18);
        x.hold(2);
        Yards.passTo(x, 11);
        EXPECT.same("one excursion", x.excursions(), 1);
        EXPECT.same("held by a call", x.causeOf(2), 'o');
        x.release(2);
        x.start(2, 1, 0);
        Yards.passTo(x, 18);
        EXPECT.same("good, of another step", x.recordAt(3, 0, 'd'), 0);
        EXPECT.same("and measured", x.measures(0), 2);
        x.start(0, 1, 0);
        x.start(1, 1, 0);
        Yards.passTo(x, 40);
        EXPECT.same("off by 18 again", x.recordAt(5, 0, 'd'), 18);
        EXPECT.same("two excursions", x.excursions(), 2);
        EXPECT.same("without a good one of the step", x.causeOf(2), 'e');
        EXPECT.same("of the step", x.causeOf(5), 'e');
        EXPECT.same("one of another step is spared", x.lotState(3), 'w');
    }

    /** Two lots end the step in one tick; the first tool's is good, the second tool's far off. */
    private static void goodOneOfAnotherToolDoesNotSpare() {
        WaferYard x = new WaferYard();
        Yards.route(x, Yards.step(0, 1));
        Yards.route(x, Yards.measured(0, 1), Yards.step(3, 1));
        Yards.drifting(x, 0, 0);
        Yards.drifting(x, 0, 9);
        x.setQualified(0, 0, 0, false);
        x.start(0, 1, 0);
        x.start(0, 1, 0);
        x.pass(4);
        x.setQualified(1, 0, 0, false);
        x.start(1, 1, 0);
        x.start(1, 1, 0);
        Yards.passTo(x, 10);
        EXPECT.same("in the first tool", x.recordAt(2, 0, 't'), 0);
        EXPECT.same("in the second tool", x.recordAt(3, 0, 't'), 1);
        EXPECT.same("in one tick", x.recordAt(2, 0, 'e'), x.recordAt(3, 0, 'e'));
        EXPECT.same("far off", x.recordAt(3, 0, 'd'), 18);
        x.pass(1);
        EXPECT.same("the first one's measure", x.measures(0), 1);
        EXPECT.same("held without a good one of its tool", x.causeOf(3), 'e');
        EXPECT.same("the good one waits", x.lotState(2), 'w');
    }

    /** A lot that ended the first step in the tool waits for the second, which is far off with another lot. */
    private static void anotherStepOfTheRouteIsSpared() {
        WaferYard x = new WaferYard();
        Yards.route(x, Yards.step(0, 1), Yards.measured(0, 1), Yards.step(3, 1));
        Yards.drifting(x, 0, 9);
        x.setRule('s', '-', '-', '-');
        x.start(0, 1, 0);
        x.start(0, 1, 0);
        // Both end the first step, at 3 and 4; one ends the second step at 7.
        Yards.passTo(x, 5);
        x.hold(1);
        Yards.passTo(x, 10);
        EXPECT.same("far off", x.recordAt(0, 1, 'd'), 18);
        EXPECT.same("ended the first step alone", x.recordAt(1, 0, 'e'), 4);
        x.release(1);
        EXPECT.same("waits", x.lotState(1), 'w');
        x.pass(1);
        EXPECT.same("an excursion", x.excursions(), 1);
        EXPECT.same("the lot of the step", x.causeOf(0), 'e');
        EXPECT.same("one that ended another step", x.lotState(1), 'w');
    }

    /** Good measures at 6 and 7 of ends at 3 and 4, then an excursion, and one more behind a rest. */
    private static void latestGoodOneCounts() {
        WaferYard x = new WaferYard();
        Yards.route(x, Yards.measured(0, 1), Yards.step(3, 1));
        x.addTool(0, 1, 0, 50, 1, 9);
        for (int i = 0; i < 3; i++) {
            x.start(0, 1, 0);
        }
        Yards.passTo(x, 9);
        EXPECT.same("behind the earlier good one, not the latest", x.lotState(1), 'w');
        EXPECT.same("behind the latest", x.causeOf(2), 'e');
        Yards.passTo(x, 12);
        x.release(2);
        for (int i = 0; i < 3; i++) {
            x.start(0, 1, 0);
        }
        Yards.passTo(x, 30);
        EXPECT.same("0, 9 and 18 again", x.recordAt(5, 0, 'd'), 18);
        EXPECT.same("held", x.causeOf(5), 'e');
        EXPECT.same("spared by a good one that came later", x.lotState(2), 'w');
    }

    /** A good measure, a rest, then an excursion without a good one since the rest. */
    private static void restKeepsTheLatestGoodOne() {
        WaferYard x = new WaferYard();
        Yards.route(x, Yards.step(0, 1));
        Yards.route(x, Yards.measured(0, 1), Yards.step(3, 1));
        x.addTool(0, 1, 0, 50, 1, 9);
        x.start(1, 1, 0);
        Yards.passTo(x, 7);
        EXPECT.same("a good measure", x.measures(0), 1);
        x.askRest(0);
        x.pass(1);
        x.start(0, 1, 0);
        x.start(0, 1, 0);
        x.start(1, 1, 0);
        Yards.passTo(x, 19);
        EXPECT.same("an excursion", x.excursions(), 1);
        EXPECT.same("behind the good one", x.causeOf(3), 'e');
        EXPECT.same("of the batch of the good one", x.lotState(0), 'w');
    }

    /** Three lots far off: one is done, one in the next tool, one waits when the first measure comes. */
    private static void holdsWhoeverWaits() {
        WaferYard x = new WaferYard();
        Yards.route(x, Yards.measured(0, 1), Yards.step(1, 1));
        Yards.route(x, Yards.step(0, 1));
        Yards.drifting(x, 0, 9);
        Yards.tool(x, 1);
        Yards.tool(x, 1);
        for (int i = 0; i < 3; i++) {
            x.start(0, 1, 0);
            x.hold(i);
        }
        x.start(1, 1, 0);
        x.start(1, 1, 0);
        Yards.passTo(x, 4);
        for (int i = 2; i >= 0; i--) {
            x.release(i);
        }
        x.setRule('l', '-', '-', '-');
        Yards.passTo(x, 10);
        EXPECT.same("the first's end", x.recordAt(0, 0, 'e'), 7);
        EXPECT.same("the second's end", x.recordAt(1, 0, 'e'), 8);
        EXPECT.same("the third's end", x.recordAt(2, 0, 'e'), 9);
        x.pass(1);
        EXPECT.same("an excursion", x.excursions(), 1);
        EXPECT.same("one that is done stays done", x.lotState(0), 'd');
        EXPECT.same("one in a tool works on", x.lotState(1), 't');
        EXPECT.same("one that waits is held", x.causeOf(2), 'e');
        EXPECT.same("one of another step is done", x.lotState(3), 'd');
        WaferYard y = Yards.aheadOfMeasure(11, 1, 0);
        y.hold(11);
        y.pass(1);
        EXPECT.same("one that is held stays so by a call", y.causeOf(11), 'o');
        lotZeroIsHeld();
    }

    private static void lotZeroIsHeld() {
        WaferYard x = new WaferYard();
        Yards.route(x, Yards.measured(0, 1), Yards.step(1, 1));
        Yards.route(x, Yards.step(0, 1));
        Yards.drifting(x, 0, 9);
        x.start(0, 1, 0);
        x.hold(0);
        x.start(1, 1, 0);
        x.start(1, 1, 0);
        Yards.passTo(x, 4);
        x.release(0);
        Yards.passTo(x, 10);
        EXPECT.same("waits", x.lotState(0), 'w');
        x.pass(1);
        EXPECT.same("the first lot of all is held", x.causeOf(0), 'e');
    }

    /** In the tick of the measure the lot ends the next step, and waits for the one behind that. */
    private static void holdsAtWhateverStep() {
        WaferYard x = new WaferYard();
        Yards.route(x, Yards.step(0, 1));
        Yards.route(x, Yards.measured(0, 1), Yards.step(1, 1), Yards.step(3, 1));
        Yards.drifting(x, 0, 9);
        Yards.tool(x, 1);
        x.start(0, 1, 0);
        x.start(0, 1, 0);
        x.start(1, 1, 0);
        Yards.passTo(x, 10);
        EXPECT.same("in the next tool", x.lotState(2), 't');
        x.pass(1);
        EXPECT.same("ended in the tick of the measure", x.recordAt(2, 1, 'e'), 10);
        EXPECT.same("held at the step behind", x.stepOf(2), 2);
        EXPECT.same("by the excursion", x.causeOf(2), 'e');
    }

    /** Parts have the record of the whole; a lot that takes in another one has its own. */
    private static void holdsByTheLotsOwnRecord() {
        WaferYard x = new WaferYard();
        Yards.route(x, Yards.step(0, 1));
        Yards.route(x, Yards.measured(0, 1), Yards.step(3, 1));
        Yards.drifting(x, 0, 9);
        x.addTool(0, 1, 0, 50, 9, 0);
        x.setQualified(1, 0, 0, false);
        x.start(0, 1, 0);
        x.start(0, 1, 0);
        x.start(1, 4, 0);
        x.start(1, 1, 0);
        // The lot 2 ends at 3 in the second tool; the lot 4 at 7 and the lot 5 at 8 in the first.
        Yards.passTo(x, 4);
        x.setQualified(1, 1, 0, false);
        x.start(1, 5, 0);
        x.start(1, 1, 0);
        Yards.passTo(x, 9);
        EXPECT.same("in the second tool", x.recordAt(2, 0, 't'), 1);
        EXPECT.same("in the first tool", x.recordAt(4, 0, 't'), 0);
        EXPECT.same("in the first tool, too", x.recordAt(5, 0, 't'), 0);
        x.split(4, 1);
        x.merge(2, 5);
        Yards.passTo(x, 11);
        EXPECT.same("an excursion", x.excursions(), 1);
        EXPECT.same("the whole", x.causeOf(4), 'e');
        EXPECT.same("its part", x.causeOf(6), 'e');
        EXPECT.same("the one that took another in", x.lotState(2), 'w');
    }

    /** In the tick of the measure the lot waits already for a step farther behind. */
    private static void reworksOnlyBehindTheStep() {
        WaferYard x = new WaferYard();
        Yards.route(x, Yards.step(0, 1));
        Yards.route(x, Yards.measured(0, 1), Yards.step(1, 1), Yards.step(3, 1));
        x.setRework(1, 0, 1);
        Yards.drifting(x, 0, 7);
        Yards.tool(x, 1);
        x.start(0, 1, 0);
        x.start(1, 1, 0);
        Yards.passTo(x, 10);
        EXPECT.same("measured", x.measures(0), 1);
        EXPECT.same("off by seven", x.recordAt(1, 0, 'd'), 7);
        EXPECT.same("ended the next step, too", x.recordAt(1, 1, 'e'), 9);
        EXPECT.same("waits on", x.stepOf(1), 2);
        EXPECT.same("was not held", x.lotState(1), 'w');
    }

    /** A lot is off by seven at its second step; it is sent back, if it was not at its first one. */
    private static void reworksOnceByWhateverStep() {
        for (int back = 0; back < 2; back++) {
            WaferYard x = new WaferYard();
            Yards.route(x, Yards.step(0, 1));
            Yards.route(x, Yards.step(1, 1));
            Yards.route(x, Yards.measured(0, 1), Yards.measured(1, 1), Yards.step(3, 1));
            x.setRework(2, 0, back);
            x.setRework(2, 1, 1);
            Yards.drifting(x, 0, 7);
            Yards.drifting(x, 1, 7);
            x.setQualified(1, 2, 1, false);
            x.start(0, 1, 0);
            x.start(1, 1, 0);
            x.start(2, 1, 0);
            Yards.passTo(x, 11);
            EXPECT.same("by the first step", x.records(2), 1 + back);
            x.setQualified(1, 2, 1, true);
            Yards.passTo(x, 12);
            x.setQualified(1, 2, 1, false);
            Yards.passTo(x, 17);
            EXPECT.same("off by seven at the second", x.recordAt(2, 1 + back, 'd'), 7);
            EXPECT.same("ended", x.recordAt(2, 1 + back, 'e'), 14);
            x.pass(1);
            EXPECT.same("measured", x.measures(1), 1);
            EXPECT.same("reworked but once", x.stepOf(2), back == 1 ? 2 : 1);
        }
    }

    private static void reworksOnceThoughItWasHeld() {
        WaferYard x = Yards.aheadOfMeasure(9, 1, 1);
        x.setQualified(0, 1, 0, false);
        x.pass(1);
        EXPECT.same("reworked", x.stepOf(9), 0);
        x.hold(9);
        x.release(9);
        x.setQualified(0, 1, 0, true);
        x.pass(2);
        EXPECT.same("far off again", x.recordAt(9, 1, 'd'), 6);
        x.hold(9);
        x.release(9);
        x.pass(9);
        EXPECT.same("measured again", x.measures(0), 2);
        EXPECT.same("not reworked again", x.stepOf(9), 1);
    }

    /** The lot waits for the step number + 1, behind a step that is off by seven. */
    private static WaferYard behindStep(int number, int back) {
        WaferYard x = new WaferYard();
        Yards.route(x, Yards.step(0, 1));
        int[][] steps = new int[number + 2][];
        for (int i = 0; i < number; i++) {
            steps[i] = Yards.step(1, 1);
        }
        steps[number] = Yards.measured(0, 1);
        steps[number + 1] = Yards.step(3, 1);
        Yards.route(x, steps);
        x.setRework(1, number, back);
        Yards.drifting(x, 0, 7);
        Yards.tool(x, 1);
        x.start(0, 1, 0);
        x.pass(3);
        x.start(1, 1, 0);
        Yards.passTo(x, 3 * number + 9);
        for (int i = 0; i <= number; i++) {
            x.setQualified(i < number ? 1 : 0, 1, i, false);
        }
        EXPECT.same("off by seven", x.recordAt(1, number, 'd'), 7);
        EXPECT.same("waits behind", x.stepOf(1), number + 1);
        return x;
    }

    /** "The step that is by so many earlier than the one for which it waits, but not before 0." */
    private static void reworksByEachNumberOfSteps() {
        for (int number = 0; number <= 4; number++) {
            for (int back = 0; back <= 3; back++) {
                WaferYard x = behindStep(number, back);
                Yards.passTo(x, 60);
                int due = Math.max(0, number + 1 - back);
                EXPECT.same("step " + number + " by " + back, x.stepOf(1), due);
                EXPECT.same("waits, step " + number + " by " + back, x.lotState(1), 'w');
            }
        }
    }

    /** Tools are free for both steps in the tick of the measure; the lot goes back ahead of the beginnings. */
    private static void reworksAheadOfBeginnings() {
        WaferYard x = Yards.aheadOfMeasure(7, 1, 1);
        Yards.tool(x, 1);
        x.pass(1);
        EXPECT.same("at the step again", x.stepOf(7), 0);
        EXPECT.same("in its tool", x.toolOf(7), 0);
        WaferYard y = Yards.aheadOfMeasure(11, 1, 1);
        Yards.tool(y, 1);
        y.pass(1);
        EXPECT.same("held ahead of the beginnings", y.lotState(11), 'h');
        EXPECT.same("and not reworked", y.stepOf(11), 1);
        WaferYard z = Yards.aheadOfMeasure(5, 1, 1);
        Yards.tool(z, 1);
        z.pass(1);
        EXPECT.same("else it goes on", z.stepOf(5), 1);
        EXPECT.same("in the next tool", z.toolOf(5), 1);
    }

    /**
     * A lot lets the tool drift by eight shifts; three lots are measured with 8, 9 and 10, two with
     * -2 and -1, as the corrections come late, and four with 1, 2, 3 and 4 shifts.
     */
    private static void trendOfOneSignAlone() {
        for (int shift = -1; shift <= 1; shift += 2) {
            WaferYard x = new WaferYard();
            Yards.route(x, Yards.step(0, 1), Yards.step(0, 1), Yards.step(0, 1), Yards.step(0, 1),
                    Yards.step(0, 1), Yards.step(0, 1), Yards.step(0, 1), Yards.step(0, 1));
            Yards.route(x, Yards.measured(0, 1));
            Yards.drifting(x, 0, shift);
            x.start(0, 1, 0);
            Yards.passTo(x, 24);
            startMeasured(x, 3);
            Yards.passTo(x, 33);
            startMeasured(x, 2);
            Yards.passTo(x, 39);
            startMeasured(x, 4);
            Yards.passTo(x, 46);
            int[] due = {8, 9, 10, -2, -1, 1, 2, 3, 4};
            for (int i = 0; i < due.length; i++) {
                EXPECT.same("deviation " + i, x.recordAt(i + 1, 0, 'd'), due[i] * shift);
            }
            EXPECT.same("eight measures", x.measures(0), 8);
            EXPECT.same("three of one sign behind others, shift " + shift, x.toolState(0), 'i');
            x.pass(1);
            EXPECT.same("four of one sign, shift " + shift, x.toolState(0), 'r');
        }
    }

    private static void startMeasured(WaferYard x, int lots) {
        for (int i = 0; i < lots; i++) {
            x.start(1, 1, 0);
        }
    }

    /** Three measures above 0 ahead of a rest and three behind it, none of them 0; the seventh is the fourth. */
    private static void trendBeginsAnewAtZero() {
        for (int shift = -1; shift <= 1; shift += 2) {
            WaferYard x = new WaferYard();
            Yards.route(x, Yards.step(0, 1));
            Yards.route(x, Yards.measured(0, 1));
            x.addTool(0, 1, 0, 50, 1, shift);
            x.start(0, 1, 0);
            startMeasured(x, 3);
            Yards.passTo(x, 12);
            EXPECT.same("three measures", x.measures(0), 3);
            x.askRest(0);
            x.pass(1);
            x.start(0, 1, 0);
            startMeasured(x, 3);
            Yards.passTo(x, 25);
            EXPECT.same("three more", x.measures(0), 6);
            for (int lot : new int[] {1, 2, 3, 5, 6, 7}) {
                EXPECT.same("of one sign", x.recordAt(lot, 0, 'd') * shift > 0, true);
            }
            EXPECT.same("three since its rest, shift " + shift, x.toolState(0), 'i');
            startMeasured(x, 1);
            Yards.passTo(x, 29);
            EXPECT.same("one more of the sign", x.recordAt(8, 0, 'd') * shift > 0, true);
            EXPECT.same("not before its measure", x.toolState(0), 'i');
            x.pass(1);
            EXPECT.same("four since its rest, shift " + shift, x.toolState(0), 'r');
        }
    }
}
