/** The part "Terms", the third part of a tick: which lots an excursion holds. */
public final class ExcursionTest {
    private static final Expect EXPECT = new Expect();

    public static void main(String[] args) {
        excursionHoldsSinceTheGoodOne();
        excursionWithoutAGoodOne();
        excursionSparesOthers();
        goodOneOfTheSameBatchSpares();
        goodOneOfAnotherStepDoesNotSpare();
        goodOneOfAnotherToolDoesNotSpare();
        anotherStepOfTheRouteIsSpared();
        latestGoodOneCounts();
        restKeepsTheLatestGoodOne();
        holdsWhoeverWaits();
        holdsAtWhateverStep();
        holdsByTheLotsOwnRecord();
        EXPECT.end();
    }

    /** Deviations 0, 4, 8, 12, 16, 18, 18 of ends at 3 to 9; the measure of 12 comes at 9. */
    private static void excursionHoldsSinceTheGoodOne() {
        WaferYard x = new WaferYard();
        Yards.route(x, Yards.measured(0, 1), Yards.step(1, 1));
        Yards.drifting(x, 0, 4);
        for (int i = 0; i < 9; i++) {
            x.start(0, 1, 0);
        }
        Yards.passTo(x, 9);
        EXPECT.same("three good ones", x.measures(0), 3);
        EXPECT.same("none is held", x.lotState(5), 'w');
        x.hold(4);
        EXPECT.same("works", x.toolState(0), 'p');
        x.pass(1);
        int[] deviations = {0, 4, 8, 12, 16, 18, 18};
        for (int i = 0; i < 7; i++) {
            EXPECT.same("deviation of " + i, x.recordAt(i, 0, 'd'), deviations[i]);
            EXPECT.same("lot " + i, x.lotState(i), i < 3 ? 'w' : 'h');
            if (i >= 3) {
                EXPECT.same("cause of " + i, x.causeOf(i), i == 4 ? 'o' : 'e');
            }
        }
        EXPECT.same("one excursion", x.excursions(), 1);
        EXPECT.same("corrected first", x.correction(0, 0, 0), -12);
        EXPECT.same("rests in this tick", x.toolState(0), 'r');
        EXPECT.same("the rest is not begun", x.lotState(7), 'w');
        x.pass(3);
        EXPECT.same("more excursions while it rests", x.excursions(), 4);
        EXPECT.same("corrected while it rests", x.correction(0, 0, 0), -38);
        EXPECT.same("earlier ones are spared", x.lotState(2), 'w');
    }

    /** Twelve lots drift the tool; two lots of the measured step are both behind no good one. */
    private static void excursionWithoutAGoodOne() {
        WaferYard x = new WaferYard();
        Yards.route(x, Yards.step(0, 1), Yards.step(2, 1));
        Yards.route(x, Yards.measured(0, 1), Yards.step(2, 1));
        x.addTool(0, 1, 0, 50, 9, 1);
        for (int i = 0; i < 11; i++) {
            x.start(0, 1, 0);
        }
        x.start(1, 1, 0);
        x.start(1, 1, 0);
        x.start(1, 1, 0);
        // The lots 11, 12 and 13 end at 16, 17 and 18; the first measure comes at 19.
        Yards.passTo(x, 19);
        EXPECT.same("ended", x.records(13), 1);
        x.hold(13);
        x.pass(1);
        EXPECT.same("the first", x.causeOf(11), 'e');
        EXPECT.same("the one behind", x.causeOf(12), 'e');
        EXPECT.same("held ones stay by a call", x.causeOf(13), 'o');
        for (int i = 0; i < 11; i++) {
            EXPECT.same("another route's step", x.lotState(i), 'w');
        }
    }

    /** Two tools of a kind: only the lots of the one with the excursion are held. */
    private static void excursionSparesOthers() {
        WaferYard x = new WaferYard();
        Yards.route(x, Yards.measured(0, 1), Yards.step(2, 1));
        x.addTool(0, 1, 0, 50, 9, 9);
        x.addTool(0, 1, 0, 50, 9, 0);
        for (int i = 0; i < 7; i++) {
            x.start(0, 1, 0);
        }
        // The lots 0, 2 and 4 pass the first tool, at 3, 4 and 5: 0, 9 and 18.
        Yards.passTo(x, 8);
        EXPECT.same("the third's deviation", x.recordAt(4, 0, 'd'), 18);
        EXPECT.same("the first tool's next", x.recordAt(6, 0, 't'), 0);
        x.pass(1);
        EXPECT.same("held", x.lotState(4), 'h');
        EXPECT.same("held behind", x.lotState(6), 'h');
        EXPECT.same("good before", x.lotState(2), 'w');
        EXPECT.same("other tool", x.lotState(5), 'w');
        EXPECT.same("other tool too", x.lotState(3), 'w');
    }

    /** Batches of two with 0, 9 and 18; the first lot of the second one is gone when its good measure comes. */
    private static void goodOneOfTheSameBatchSpares() {
        WaferYard x = new WaferYard();
        Yards.route(x, Yards.measured(0, 1), Yards.step(3, 1));
        x.addTool(0, 2, 0, 50, 9, 9);
        for (int i = 0; i < 6; i++) {
            x.start(0, 1, 0);
        }
        Yards.passTo(x, 6);
        x.scrap(2, 1);
        Yards.passTo(x, 9);
        EXPECT.same("one excursion", x.excursions(), 1);
        EXPECT.same("in the first good batch", x.lotState(1), 'w');
        EXPECT.same("in the batch of the latest good measure", x.lotState(3), 'w');
        EXPECT.same("in a later batch", x.lotState(4), 'h');
        EXPECT.same("in a later batch, too", x.lotState(5), 'h');
    }

    /** Behind an excursion a good measure of another step comes, then one more excursion of the step. */
    private static void goodOneOfAnotherStepDoesNotSpare() {
        WaferYard x = new WaferYard();
        Yards.route(x, Yards.step(0, 1));
        Yards.route(x, Yards.measured(0, 1), Yards.step(3, 1));
        Yards.route(x, Yards.measured(0, 1), Yards.step(3, 1));
        x.addTool(0, 1, 0, 50, 1, 9);
        x.start(0, 1, 0);
        x.start(0, 1, 0);
        x.start(1, 1, 0);
        Yards.passTo(x, 8);
        EXPECT.same("off by 18", x.recordAt(2, 0, 'd'), 18);
        x.hold(2);
        Yards.passTo(x, 11);
        EXPECT.same("one excursion", x.excursions(), 1);
        EXPECT.same("held by a call", x.causeOf(2), 'o');
        x.release(2);
        x.start(2, 1, 0);
        Yards.passTo(x, 18);
        EXPECT.same("good, of another step", x.recordAt(3, 0, 'd'), 0);
        EXPECT.same("and measured", x.measures(0), 2);
        x.start(0, 1, 0);
        x.start(1, 1, 0);
        Yards.passTo(x, 40);
        EXPECT.same("off by 18 again", x.recordAt(5, 0, 'd'), 18);
        EXPECT.same("two excursions", x.excursions(), 2);
        EXPECT.same("without a good one of the step", x.causeOf(2), 'e');
        EXPECT.same("of the step", x.causeOf(5), 'e');
        EXPECT.same("one of another step is spared", x.lotState(3), 'w');
    }

    /** Two lots end the step in one tick; the first tool's is good, the second tool's far off. */
    private static void goodOneOfAnotherToolDoesNotSpare() {
        WaferYard x = new WaferYard();
        Yards.route(x, Yards.step(0, 1));
        Yards.route(x, Yards.measured(0, 1), Yards.step(3, 1));
        Yards.drifting(x, 0, 0);
        Yards.drifting(x, 0, 9);
        x.setQualified(0, 0, 0, false);
        x.start(0, 1, 0);
        x.start(0, 1, 0);
        x.pass(4);
        x.setQualified(1, 0, 0, false);
        x.start(1, 1, 0);
        x.start(1, 1, 0);
        Yards.passTo(x, 10);
        EXPECT.same("in the first tool", x.recordAt(2, 0, 't'), 0);
        EXPECT.same("in the second tool", x.recordAt(3, 0, 't'), 1);
        EXPECT.same("in one tick", x.recordAt(2, 0, 'e'), x.recordAt(3, 0, 'e'));
        EXPECT.same("far off", x.recordAt(3, 0, 'd'), 18);
        x.pass(1);
        EXPECT.same("the first one's measure", x.measures(0), 1);
        EXPECT.same("held without a good one of its tool", x.causeOf(3), 'e');
        EXPECT.same("the good one waits", x.lotState(2), 'w');
    }

    /** A lot that ended the first step in the tool waits for the second, which is far off with another lot. */
    private static void anotherStepOfTheRouteIsSpared() {
        WaferYard x = new WaferYard();
        Yards.route(x, Yards.step(0, 1), Yards.measured(0, 1), Yards.step(3, 1));
        Yards.drifting(x, 0, 9);
        x.setRule('s', '-', '-', '-');
        x.start(0, 1, 0);
        x.start(0, 1, 0);
        // Both end the first step, at 3 and 4; one ends the second step at 7.
        Yards.passTo(x, 5);
        x.hold(1);
        Yards.passTo(x, 10);
        EXPECT.same("far off", x.recordAt(0, 1, 'd'), 18);
        EXPECT.same("ended the first step alone", x.recordAt(1, 0, 'e'), 4);
        x.release(1);
        EXPECT.same("waits", x.lotState(1), 'w');
        x.pass(1);
        EXPECT.same("an excursion", x.excursions(), 1);
        EXPECT.same("the lot of the step", x.causeOf(0), 'e');
        EXPECT.same("one that ended another step", x.lotState(1), 'w');
    }

    /** Good measures at 6 and 7 of ends at 3 and 4, then an excursion, and one more behind a rest. */
    private static void latestGoodOneCounts() {
        WaferYard x = new WaferYard();
        Yards.route(x, Yards.measured(0, 1), Yards.step(3, 1));
        x.addTool(0, 1, 0, 50, 1, 9);
        for (int i = 0; i < 3; i++) {
            x.start(0, 1, 0);
        }
        Yards.passTo(x, 9);
        EXPECT.same("behind the earlier good one, not the latest", x.lotState(1), 'w');
        EXPECT.same("behind the latest", x.causeOf(2), 'e');
        Yards.passTo(x, 12);
        x.release(2);
        for (int i = 0; i < 3; i++) {
            x.start(0, 1, 0);
        }
        Yards.passTo(x, 30);
        EXPECT.same("0, 9 and 18 again", x.recordAt(5, 0, 'd'), 18);
        EXPECT.same("held", x.causeOf(5), 'e');
        EXPECT.same("spared by a good one that came later", x.lotState(2), 'w');
    }

    /** A good measure, a rest, then an excursion without a good one since the rest. */
    private static void restKeepsTheLatestGoodOne() {
        WaferYard x = new WaferYard();
        Yards.route(x, Yards.step(0, 1));
        Yards.route(x, Yards.measured(0, 1), Yards.step(3, 1));
        x.addTool(0, 1, 0, 50, 1, 9);
        x.start(1, 1, 0);
        Yards.passTo(x, 7);
        EXPECT.same("a good measure", x.measures(0), 1);
        x.askRest(0);
        x.pass(1);
        x.start(0, 1, 0);
        x.start(0, 1, 0);
        x.start(1, 1, 0);
        Yards.passTo(x, 19);
        EXPECT.same("an excursion", x.excursions(), 1);
        EXPECT.same("behind the good one", x.causeOf(3), 'e');
        EXPECT.same("of the batch of the good one", x.lotState(0), 'w');
    }

    /** Three lots far off: one is done, one in the next tool, one waits when the first measure comes. */
    private static void holdsWhoeverWaits() {
        WaferYard x = new WaferYard();
        Yards.route(x, Yards.measured(0, 1), Yards.step(1, 1));
        Yards.route(x, Yards.step(0, 1));
        Yards.drifting(x, 0, 9);
        Yards.tool(x, 1);
        Yards.tool(x, 1);
        for (int i = 0; i < 3; i++) {
            x.start(0, 1, 0);
            x.hold(i);
        }
        x.start(1, 1, 0);
        x.start(1, 1, 0);
        Yards.passTo(x, 4);
        for (int i = 2; i >= 0; i--) {
            x.release(i);
        }
        x.setRule('l', '-', '-', '-');
        Yards.passTo(x, 10);
        EXPECT.same("the first's end", x.recordAt(0, 0, 'e'), 7);
        EXPECT.same("the second's end", x.recordAt(1, 0, 'e'), 8);
        EXPECT.same("the third's end", x.recordAt(2, 0, 'e'), 9);
        x.pass(1);
        EXPECT.same("an excursion", x.excursions(), 1);
        EXPECT.same("one that is done stays done", x.lotState(0), 'd');
        EXPECT.same("one in a tool works on", x.lotState(1), 't');
        EXPECT.same("one that waits is held", x.causeOf(2), 'e');
        EXPECT.same("one of another step is done", x.lotState(3), 'd');
        WaferYard y = Yards.aheadOfMeasure(11, 1, 0);
        y.hold(11);
        y.pass(1);
        EXPECT.same("one that is held stays so by a call", y.causeOf(11), 'o');
        lotZeroIsHeld();
    }

    private static void lotZeroIsHeld() {
        WaferYard x = new WaferYard();
        Yards.route(x, Yards.measured(0, 1), Yards.step(1, 1));
        Yards.route(x, Yards.step(0, 1));
        Yards.drifting(x, 0, 9);
        x.start(0, 1, 0);
        x.hold(0);
        x.start(1, 1, 0);
        x.start(1, 1, 0);
        Yards.passTo(x, 4);
        x.release(0);
        Yards.passTo(x, 10);
        EXPECT.same("waits", x.lotState(0), 'w');
        x.pass(1);
        EXPECT.same("the first lot of all is held", x.causeOf(0), 'e');
    }

    /** In the tick of the measure the lot ends the next step, and waits for the one behind that. */
    private static void holdsAtWhateverStep() {
        WaferYard x = new WaferYard();
        Yards.route(x, Yards.step(0, 1));
        Yards.route(x, Yards.measured(0, 1), Yards.step(1, 1), Yards.step(3, 1));
        Yards.drifting(x, 0, 9);
        Yards.tool(x, 1);
        x.start(0, 1, 0);
        x.start(0, 1, 0);
        x.start(1, 1, 0);
        Yards.passTo(x, 10);
        EXPECT.same("in the next tool", x.lotState(2), 't');
        x.pass(1);
        EXPECT.same("ended in the tick of the measure", x.recordAt(2, 1, 'e'), 10);
        EXPECT.same("held at the step behind", x.stepOf(2), 2);
        EXPECT.same("by the excursion", x.causeOf(2), 'e');
    }

    /** Parts have the record of the whole; a lot that takes in another one has its own. */
    private static void holdsByTheLotsOwnRecord() {
        WaferYard x = new WaferYard();
        Yards.route(x, Yards.step(0, 1));
        Yards.route(x, Yards.measured(0, 1), Yards.step(3, 1));
        Yards.drifting(x, 0, 9);
        x.addTool(0, 1, 0, 50, 9, 0);
        x.setQualified(1, 0, 0, false);
        x.start(0, 1, 0);
        x.start(0, 1, 0);
        x.start(1, 4, 0);
        x.start(1, 1, 0);
        // The lot 2 ends at 3 in the second tool; the lot 4 at 7 and the lot 5 at 8 in the first.
        Yards.passTo(x, 4);
        x.setQualified(1, 1, 0, false);
        x.start(1, 5, 0);
        x.start(1, 1, 0);
        Yards.passTo(x, 9);
        EXPECT.same("in the second tool", x.recordAt(2, 0, 't'), 1);
        EXPECT.same("in the first tool", x.recordAt(4, 0, 't'), 0);
        EXPECT.same("in the first tool, too", x.recordAt(5, 0, 't'), 0);
        x.split(4, 1);
        x.merge(2, 5);
        Yards.passTo(x, 11);
        EXPECT.same("an excursion", x.excursions(), 1);
        EXPECT.same("the whole", x.causeOf(4), 'e');
        EXPECT.same("its part", x.causeOf(6), 'e');
        EXPECT.same("the one that took another in", x.lotState(2), 'w');
    }
}
