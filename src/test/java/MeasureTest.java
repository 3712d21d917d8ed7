/** The part "Terms", the third part of a tick: measures, their corrections and order, and what tells a tool to rest. */
public final class MeasureTest {
    private static final Expect EXPECT = new Expect();

    public static void main(String[] args) {
        roundsHalves();
        excursionsAndReworkByAmount();
        trendAsksForRest();
        trendBeginsAnewAfterRest();
        correctsRestingTools();
        correctsRestedTools();
        measuresInOrderOfTools();
        firstToolsMeasureComesFirst();
        measuresTheLotWithTheLowestNumber();
        measuresAsLateAsToldOfWhateverLot();
        trendOfOneSignAlone();
        trendBeginsAnewAtZero();
        EXPECT.end();
    }

    /** The second lot's deviation is the shift. */
    private static void roundsHalves() {
        int[] halves = {0, 0, 1, 2, 2, 2, 3, 4, 4, 4};
        for (int shift = -9; shift <= 9; shift++) {
            WaferYard x = new WaferYard();
            Yards.route(x, Yards.measured(0, 1));
            Yards.drifting(x, 0, shift);
            x.start(0, 1, 0);
            x.start(0, 1, 0);
            Yards.passTo(x, 7);
            EXPECT.same("first measure", x.measures(0), 1);
            EXPECT.same("of no deviation", x.correction(0, 0, 0), 0);
            x.pass(1);
            EXPECT.same("second measure", x.measures(0), 2);
            int half = shift < 0 ? -halves[-shift] : halves[shift];
            EXPECT.same("less by half of " + shift, x.correction(0, 0, 0), -half);
        }
    }

    private static void excursionsAndReworkByAmount() {
        for (int sign = -1; sign <= 1; sign += 2) {
            for (int count : new int[] {5, 6, 10, 11}) {
                WaferYard x = Yards.aheadOfMeasure(count, sign, 1);
                x.setQualified(0, 1, 0, false);
                String what = "deviation " + sign * count + ": ";
                EXPECT.same(what + "told", x.recordAt(count, 0, 'd'), sign * count);
                EXPECT.same(what + "no measure yet", x.measures(0), 0);
                EXPECT.same(what + "waits for the next", x.stepOf(count), 1);
                x.pass(1);
                EXPECT.same(what + "measure", x.measures(0), 1);
                EXPECT.same(what + "excursions", x.excursions(), count > 10 ? 1 : 0);
                EXPECT.same(what + "state", x.lotState(count), count > 10 ? 'h' : 'w');
                EXPECT.same(what + "step", x.stepOf(count), count > 5 && count <= 10 ? 0 : 1);
                EXPECT.same(what + "tool", x.toolState(0), count > 10 ? 'r' : 'i');
            }
        }
        WaferYard y = Yards.aheadOfMeasure(8, 1, 0);
        y.pass(1);
        EXPECT.same("not reworked by none", y.stepOf(8), 1);
    }

    /** Deviations 0, 1, 2, 3, 4 are measured at 6 to 10; the four above 0 ask for a rest. */
    private static void trendAsksForRest() {
        for (int shift = -1; shift <= 1; shift++) {
            WaferYard x = new WaferYard();
            Yards.route(x, Yards.measured(0, 1));
            Yards.drifting(x, 0, shift);
            for (int i = 0; i < 16; i++) {
                x.start(0, 1, 0);
            }
            Yards.passTo(x, 10);
            EXPECT.same("works on, shift " + shift, x.toolState(0), 'p');
            EXPECT.same("four measures", x.measures(0), 4);
            x.pass(1);
            EXPECT.same("five measures", x.measures(0), 5);
            EXPECT.same("rests but for shift 0: " + shift, x.toolState(0), shift == 0 ? 'p' : 'r');
        }
        ofWhateverSteps();
        zeroIsNeither();
    }

    /** Measures 4, 5 and 6 at 12 to 14 correct by 7, so that 0 and 1 follow at 19 and 20. */
    private static void zeroIsNeither() {
        WaferYard x = new WaferYard();
        Yards.route(x, Yards.step(0, 1));
        Yards.route(x, Yards.measured(0, 1));
        Yards.drifting(x, 0, 1);
        for (int i = 0; i < 7; i++) {
            x.start(i < 4 ? 0 : 1, 1, 0);
        }
        Yards.passTo(x, 15);
        EXPECT.same("three measures", x.measures(0), 3);
        EXPECT.same("corrected by seven", x.correction(0, 1, 0), -7);
        x.start(1, 1, 0);
        x.start(1, 1, 0);
        Yards.passTo(x, 21);
        EXPECT.same("two more", x.measures(0), 5);
        EXPECT.same("of 0", x.recordAt(7, 0, 'd'), 0);
        EXPECT.same("and of 1", x.recordAt(8, 0, 'd'), 1);
        EXPECT.same("four above 0, but not the last four", x.toolState(0), 'i');
    }

    /** Two measured steps in turn: 1, 2, 3, 4 behind a 0. */
    private static void ofWhateverSteps() {
        WaferYard x = new WaferYard();
        Yards.route(x, Yards.measured(0, 1), Yards.measured(0, 1), Yards.measured(0, 1), Yards.measured(0, 1),
                Yards.measured(0, 1));
        Yards.drifting(x, 0, 1);
        x.start(0, 1, 0);
        // Ends at 3, 6, 9, 12 and 15, measures at 6, 9, 12, 15 and 18.
        Yards.passTo(x, 18);
        EXPECT.same("four measures", x.measures(0), 4);
        EXPECT.same("the fifth deviation", x.recordAt(0, 4, 'd'), 4);
        EXPECT.same("three above 0", x.toolState(0), 'i');
        x.pass(1);
        EXPECT.same("four above 0", x.toolState(0), 'r');
    }

    private static void trendBeginsAnewAfterRest() {
        WaferYard x = new WaferYard();
        Yards.route(x, Yards.measured(0, 1));
        x.addTool(0, 1, 0, 50, 3, 1);
        for (int i = 0; i < 4; i++) {
            x.start(0, 1, 0);
        }
        // Measures 0, 1, 2, 3 at 6 to 9; then a rest from 10 to 13.
        Yards.passTo(x, 10);
        EXPECT.same("four measures", x.measures(0), 4);
        x.askRest(0);
        x.pass(1);
        EXPECT.same("rests", x.toolState(0), 'r');
        for (int i = 0; i < 5; i++) {
            x.start(0, 1, 0);
        }
        // Ends at 16 to 20 with 0, 1, 2, 3 and 4; measures at 19 to 23.
        Yards.passTo(x, 23);
        EXPECT.same("measures 0, 1, 2, 3", x.measures(0), 8);
        EXPECT.same("three above 0 since the rest", x.toolState(0), 'i');
        x.pass(1);
        EXPECT.same("four above 0 since the rest", x.toolState(0), 'r');
        notByMeasuresInTheRest();
    }

    /** Three measures above 0 come while the tool rests, and do not count behind the rest. */
    private static void notByMeasuresInTheRest() {
        WaferYard x = new WaferYard();
        Yards.route(x, Yards.measured(0, 1));
        Yards.route(x, Yards.step(0, 1));
        x.addTool(0, 1, 0, 4, 9, 1);
        for (int i = 0; i < 4; i++) {
            x.start(0, 1, 0);
        }
        // Ends at 3 to 6 with 0, 1, 2, 3; rests from 6 to 15, measures at 6 to 9.
        Yards.passTo(x, 15);
        EXPECT.same("came while it rests", x.measures(0), 4);
        x.start(1, 1, 0);
        x.start(0, 1, 0);
        // Ends at 18 and 21 with 0 and 1; the measure comes at 24.
        Yards.passTo(x, 25);
        EXPECT.same("came behind the rest", x.measures(0), 5);
        EXPECT.same("above 0", x.recordAt(5, 0, 'd'), 1);
        EXPECT.same("one alone since the rest", x.toolState(0), 'i');
    }

    private static void correctsRestingTools() {
        WaferYard x = new WaferYard();
        Yards.route(x, Yards.measured(0, 1));
        x.addTool(0, 1, 0, 2, 9, 8);
        x.start(0, 1, 0);
        x.start(0, 1, 0);
        Yards.passTo(x, 8);
        EXPECT.same("rests", x.toolState(0), 'r');
        EXPECT.same("corrected while it rests", x.correction(0, 0, 0), -4);
        Yards.passTo(x, 14);
        EXPECT.same("forgotten by the rest", x.correction(0, 0, 0), 0);
    }

    /** The rest ends at 5, the measures of 0 and 12 come at 6 and 7. */
    private static void correctsRestedTools() {
        WaferYard x = new WaferYard();
        Yards.route(x, Yards.step(0, 1));
        Yards.route(x, Yards.measured(0, 1), Yards.step(1, 1));
        x.addTool(0, 1, 0, 3, 1, 6);
        x.start(0, 1, 0);
        x.start(0, 1, 0);
        x.start(1, 1, 0);
        // Ends at 3, 4 and 7; rests from 7 to 8; the measure of 12 comes at 10.
        Yards.passTo(x, 10);
        EXPECT.same("rested", x.toolState(0), 'i');
        EXPECT.same("no drift", x.driftOf(0), 0);
        x.pass(1);
        EXPECT.same("told so", x.toolState(0), 'r');
        EXPECT.same("corrected", x.correction(0, 1, 0), -6);
        EXPECT.same("held", x.causeOf(2), 'e');
    }

    /** In one tick the first tool's good measure counts for its own lots alone. */
    private static void measuresInOrderOfTools() {
        WaferYard x = new WaferYard();
        Yards.route(x, Yards.measured(0, 1), Yards.step(2, 1));
        x.setRework(0, 0, 1);
        Yards.drifting(x, 0, 9);
        Yards.drifting(x, 0, -9);
        for (int i = 0; i < 6; i++) {
            x.start(0, 1, 0);
        }
        // 0 and 1 end at 3 with 0; 2 and 3 at 4 with 9 and -9; 4 and 5 at 5 with 18 and -18.
        Yards.passTo(x, 7);
        x.setQualified(0, 0, 0, false);
        x.setQualified(1, 0, 0, false);
        x.pass(1);
        EXPECT.same("reworked by the first tool", x.stepOf(2), 0);
        EXPECT.same("reworked by the second tool", x.stepOf(3), 0);
        EXPECT.same("correction of the first", x.correction(0, 0, 0), -4);
        EXPECT.same("correction of the second", x.correction(1, 0, 0), 4);
        x.pass(1);
        EXPECT.same("two excursions", x.excursions(), 2);
        EXPECT.same("of the first", x.lotState(4), 'h');
        EXPECT.same("of the second", x.lotState(5), 'h');
        EXPECT.same("good by its own tool", x.lotState(2), 'w');
        EXPECT.same("good by the other tool", x.lotState(3), 'w');
    }

    /**
     * The tool of the step A is far off from its first lot on, whose excursion is measured while the
     * lot is in the tool of the step B. Then the next lot of A and the first of B are measured in one
     * tick: the one holds the first lot, the other sends it back, if it is not held.
     */
    private static void firstToolsMeasureComesFirst() {
        for (int first = 0; first < 2; first++) {
            int a = first;
            int b = 1 - first;
            WaferYard x = new WaferYard();
            Yards.route(x, Yards.step(a, 1));
            Yards.route(x, Yards.step(b, 1));
            Yards.route(x, Yards.measured(a, 5), Yards.measured(b, 3), Yards.step(3, 1));
            x.setRework(2, 1, 1);
            Yards.drifting(x, 0, a == 0 ? 9 : 7);
            Yards.drifting(x, 1, a == 0 ? 7 : 9);
            x.start(0, 1, 0);
            x.start(0, 1, 0);
            x.start(1, 1, 0);
            x.start(2, 1, 0);
            x.start(2, 1, 0);
            Yards.passTo(x, 19);
            EXPECT.same("one excursion so far", x.excursions(), 1);
            EXPECT.same("ended the step A", x.recordAt(3, 0, 'e'), 11);
            EXPECT.same("ended the step B", x.recordAt(3, 1, 'e'), 16);
            EXPECT.same("the next one of A with it", x.recordAt(4, 0, 'e'), 16);
            EXPECT.same("off by seven", x.recordAt(3, 1, 'd'), 7);
            EXPECT.same("waits", x.lotState(3), 'w');
            x.setQualified(b, 2, 1, false);
            x.pass(1);
            EXPECT.same("two excursions", x.excursions(), 2);
            EXPECT.same("held", x.causeOf(3), 'e');
            EXPECT.same("held ahead of rework, if A is of the first tool", x.stepOf(3), a == 0 ? 2 : 1);
        }
    }

    /** The rule puts the lot 2 ahead of the lot 1; the measure is of the lot 1 all the same. */
    private static void measuresTheLotWithTheLowestNumber() {
        WaferYard x = new WaferYard();
        Yards.route(x, Yards.step(0, 1));
        Yards.route(x, Yards.measured(0, 1), Yards.step(3, 1));
        x.setRework(1, 0, 1);
        x.setRule('p', '-', '-', '-');
        x.addTool(0, 2, 0, 50, 9, 7);
        x.start(0, 1, 9);
        x.start(1, 1, 0);
        x.start(1, 1, 8);
        Yards.passTo(x, 9);
        EXPECT.same("one batch", x.recordAt(1, 0, 'b'), x.recordAt(2, 0, 'b'));
        EXPECT.same("off by seven", x.recordAt(2, 0, 'd'), 7);
        x.setQualified(0, 1, 0, false);
        x.pass(1);
        EXPECT.same("one measure a batch", x.measures(0), 1);
        EXPECT.same("the lowest number is reworked", x.stepOf(1), 0);
        EXPECT.same("the first by the rule is not", x.stepOf(2), 1);
    }

    /** Two batches; the first lot of the second is scrapped, merged or in a tool when its measure comes. */
    private static void measuresAsLateAsToldOfWhateverLot() {
        for (int fate = 0; fate < 3; fate++) {
            WaferYard x = new WaferYard();
            Yards.route(x, Yards.step(0, 1));
            Yards.route(x, Yards.measured(0, 1), Yards.step(1, 1));
            x.addTool(0, 2, 0, 50, 9, 9);
            x.start(0, 1, 0);
            x.start(1, 1, 0);
            x.start(1, 1, 0);
            Yards.passTo(x, 7);
            if (fate == 0) {
                x.scrap(1, 1);
            } else if (fate == 1) {
                x.merge(2, 1);
            } else {
                Yards.tool(x, 1);
                x.hold(2);
            }
            Yards.passTo(x, 9);
            EXPECT.same("not before 3 ticks", x.measures(0), 0);
            x.pass(1);
            EXPECT.same("3 ticks later, fate " + fate, x.measures(0), 1);
            EXPECT.same("corrected, fate " + fate, x.correction(0, 1, 0), -4);
            EXPECT.same("its lot is elsewhere, fate " + fate, x.lotState(1), "xmt".charAt(fate));
        }
    }

    /**
     * A lot lets the tool drift by eight shifts; three lots are measured with 8, 9 and 10, two with
     * -2 and -1, as the corrections come late, and four with 1, 2, 3 and 4 shifts.
     */
    private static void trendOfOneSignAlone() {
        for (int shift = -1; shift <= 1; shift += 2) {
            WaferYard x = new WaferYard();
            Yards.route(x, Yards.step(0, 1), Yards.step(0, 1), Yards.step(0, 1), Yards.step(0, 1),
                    Yards.step(0, 1), Yards.step(0, 1), Yards.step(0, 1), Yards.step(0, 1));
            Yards.route(x, Yards.measured(0, 1));
            Yards.drifting(x, 0, shift);
            x.start(0, 1, 0);
            Yards.passTo(x, 24);
            startMeasured(x, 3);
            Yards.passTo(x, 33);
            startMeasured(x, 2);
            Yards.passTo(x, 39);
            startMeasured(x, 4);
            Yards.passTo(x, 46);
            int[] due = {8, 9, 10, -2, -1, 1, 2, 3, 4};
            for (int i = 0; i < due.length; i++) {
                EXPECT.same("deviation " + i, x.recordAt(i + 1, 0, 'd'), due[i] * shift);
            }
            EXPECT.same("eight measures", x.measures(0), 8);
            EXPECT.same("three of one sign behind others, shift " + shift, x.toolState(0), 'i');
            x.pass(1);
            EXPECT.same("four of one sign, shift " + shift, x.toolState(0), 'r');
        }
    }

    private static void startMeasured(WaferYard x, int lots) {
        for (int i = 0; i < lots; i++) {
            x.start(1, 1, 0);
        }
    }

    /** Three measures above 0 ahead of a rest and three behind it, none of them 0; the seventh is the fourth. */
    private static void trendBeginsAnewAtZero() {
        for (int shift = -1; shift <= 1; shift += 2) {
            WaferYard x = new WaferYard();
            Yards.route(x, Yards.step(0, 1));
            Yards.route(x, Yards.measured(0, 1));
            x.addTool(0, 1, 0, 50, 1, shift);
            x.start(0, 1, 0);
            startMeasured(x, 3);
            Yards.passTo(x, 12);
            EXPECT.same("three measures", x.measures(0), 3);
            x.askRest(0);
            x.pass(1);
            x.start(0, 1, 0);
            startMeasured(x, 3);
            Yards.passTo(x, 25);
            EXPECT.same("three more", x.measures(0), 6);
            for (int lot : new int[] {1, 2, 3, 5, 6, 7}) {
                EXPECT.same("of one sign", x.recordAt(lot, 0, 'd') * shift > 0, true);
            }
            EXPECT.same("three since its rest, shift " + shift, x.toolState(0), 'i');
            startMeasured(x, 1);
            Yards.passTo(x, 29);
            EXPECT.same("one more of the sign", x.recordAt(8, 0, 'd') * shift > 0, true);
            EXPECT.same("not before its measure", x.toolState(0), 'i');
            x.pass(1);
            EXPECT.same("four since its rest, shift " + shift, x.toolState(0), 'r');
        }
    }
}
