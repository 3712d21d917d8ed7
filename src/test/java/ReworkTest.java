import java.util.NoSuchElementException;

/** The part "Terms", the third part of a tick: which lot is reworked, and how. */
public final class ReworkTest {
    private static final Class<NoSuchElementException> NONE = NoSuchElementException.class;
    private static final Expect EXPECT = new Expect();

    public static void main(String[] args) {
        reworksOnce();
        reworksNotBeforeTheFirst();
        reworksWithoutALimit();
        reworksNoLotThatIsElsewhere();
        reworksOnlyBehindTheStep();
        reworksOnceByWhateverStep();
        reworksOnceThoughItWasHeld();
        reworksByEachNumberOfSteps();
        reworksAheadOfBeginnings();
        EXPECT.end();
    }

    /** Deviation 9, correction -4, then 10 - 4 = 6, which is far off again. */
    private static void reworksOnce() {
        WaferYard x = Yards.aheadOfMeasure(9, 1, 1);
        x.pass(1);
        EXPECT.same("back in the tool at once", x.lotState(9), 't');
        EXPECT.same("at the step again", x.stepOf(9), 0);
        x.pass(1);
        EXPECT.same("ended again", x.recordAt(9, 1, 's'), 0);
        EXPECT.same("far off again", x.recordAt(9, 1, 'd'), 6);
        EXPECT.same("waits for the next again", x.stepOf(9), 1);
        Yards.passTo(x, 30);
        EXPECT.same("measured again", x.measures(0), 2);
        EXPECT.same("not reworked again", x.stepOf(9), 1);
        EXPECT.same("two records", x.records(9), 2);
        EXPECT.same("sound", x.isSound(), true);
    }

    private static void reworksNotBeforeTheFirst() {
        WaferYard x = Yards.aheadOfMeasure(7, 1, 3);
        x.setQualified(0, 1, 0, false);
        x.pass(1);
        EXPECT.same("not before 0", x.stepOf(7), 0);
        WaferYard y = new WaferYard();
        Yards.route(y, Yards.step(2, 1), Yards.step(0, 1), Yards.step(0, 1), Yards.measured(0, 1), Yards.step(3, 1));
        y.setRework(0, 3, 2);
        Yards.tool(y, 2);
        Yards.drifting(y, 0, 4);
        y.start(0, 1, 0);
        // Ends at 3, 6, 9 and 12, in the drift 8; the measure comes at 15.
        Yards.passTo(y, 15);
        EXPECT.same("waits behind", y.stepOf(0), 4);
        EXPECT.same("off by eight", y.recordAt(0, 3, 'd'), 8);
        y.askRest(1);
        y.pass(1);
        EXPECT.same("two earlier than the one for which it waits", y.stepOf(0), 2);
        EXPECT.same("from this tick on", y.lotState(0), 'w');
        Yards.passTo(y, 60);
        EXPECT.same("steps again", y.recordAt(0, 4, 's'), 2);
        EXPECT.same("the next of them", y.recordAt(0, 5, 's'), 3);
        EXPECT.same("sound", y.isSound(), true);
    }

    /** The lot waits with a limit behind the measured step, for a tool that is patient. */
    private static void reworksWithoutALimit() {
        WaferYard x = new WaferYard();
        Yards.route(x, Yards.step(0, 1));
        Yards.route(x, new int[] {0, 1, 8, -1, 1}, Yards.step(1, 1));
        x.setRework(1, 0, 1);
        Yards.drifting(x, 0, 7);
        x.addTool(1, 2, 9, 50, 1, 0);
        x.start(0, 1, 0);
        x.start(1, 1, 0);
        Yards.passTo(x, 9);
        EXPECT.same("limit", x.limitOf(1), 14);
        x.setQualified(0, 1, 0, false);
        x.pass(1);
        EXPECT.same("reworked", x.stepOf(1), 0);
        EXPECT.thrown("without a limit", NONE, () -> x.limitOf(1));
        Yards.passTo(x, 20);
        EXPECT.same("not held by the old limit", x.lotState(1), 'w');
        x.setQualified(0, 1, 0, true);
        Yards.passTo(x, 22);
        EXPECT.same("a new limit", x.limitOf(1), 29);
        waitsAnewWhenReworked();
    }

    private static void waitsAnewWhenReworked() {
        WaferYard x = new WaferYard();
        Yards.route(x, Yards.measured(0, 1), Yards.step(1, 1));
        x.setRework(0, 0, 1);
        x.addTool(0, 2, 5, 50, 1, 7);
        x.start(0, 1, 0);
        x.start(0, 1, 0);
        x.start(0, 1, 0);
        // Two begin at 0 and end at 3; the third begins at 5, with its patience, and ends at 6.
        Yards.passTo(x, 9);
        EXPECT.same("off by seven", x.recordAt(2, 0, 'd'), 7);
        x.pass(1);
        EXPECT.same("reworked at 9", x.stepOf(2), 0);
        EXPECT.same("its first two are not", x.stepOf(0), 1);
        Yards.passTo(x, 14);
        EXPECT.same("waits from 9 on", x.lotState(2), 'w');
        x.pass(1);
        EXPECT.same("begins at 14", x.lotState(2), 't');
    }

    private static void reworksNoLotThatIsElsewhere() {
        WaferYard held = Yards.aheadOfMeasure(7, 1, 1);
        held.hold(7);
        held.pass(1);
        EXPECT.same("a held one stays", held.stepOf(7), 1);
        held.release(7);
        held.pass(5);
        EXPECT.same("and is not reworked later", held.stepOf(7), 1);
        WaferYard gone = Yards.aheadOfMeasure(7, 1, 1);
        gone.scrap(7, 5);
        gone.pass(1);
        EXPECT.same("a scrapped one stays", gone.stepOf(7), 1);
        WaferYard merged = Yards.aheadOfMeasure(7, 1, 1);
        merged.setQualified(0, 1, 0, false);
        int part = merged.split(7, 2);
        merged.merge(part, 7);
        merged.pass(1);
        EXPECT.same("the part stays", merged.stepOf(part), 1);
        WaferYard split = Yards.aheadOfMeasure(7, 1, 1);
        split.setQualified(0, 1, 0, false);
        split.split(7, 2);
        split.pass(1);
        EXPECT.same("the first lot is reworked", split.stepOf(7), 0);
        EXPECT.same("its part is not", split.stepOf(8), 1);
        WaferYard late = new WaferYard();
        Yards.route(late, Yards.step(0, 1));
        Yards.route(late, Yards.measured(0, 1), Yards.step(1, 9));
        late.setRework(1, 0, 1);
        Yards.drifting(late, 0, 7);
        Yards.tool(late, 1);
        late.start(0, 1, 0);
        late.start(1, 1, 0);
        Yards.passTo(late, 10);
        EXPECT.same("one in the next tool works on", late.toolOf(1), 1);
        EXPECT.same("at the next step", late.stepOf(1), 1);
        EXPECT.same("the measure came", late.measures(0), 1);
    }

    /** In the tick of the measure the lot waits already for a step farther behind. */
    private static void reworksOnlyBehindTheStep() {
        WaferYard x = new WaferYard();
        Yards.route(x, Yards.step(0, 1));
        Yards.route(x, Yards.measured(0, 1), Yards.step(1, 1), Yards.step(3, 1));
        x.setRework(1, 0, 1);
        Yards.drifting(x, 0, 7);
        Yards.tool(x, 1);
        x.start(0, 1, 0);
        x.start(1, 1, 0);
        Yards.passTo(x, 10);
        EXPECT.same("measured", x.measures(0), 1);
        EXPECT.same("off by seven", x.recordAt(1, 0, 'd'), 7);
        EXPECT.same("ended the next step, too", x.recordAt(1, 1, 'e'), 9);
        EXPECT.same("waits on", x.stepOf(1), 2);
        EXPECT.same("was not held", x.lotState(1), 'w');
    }

    /** A lot is off by seven at its second step; it is sent back, if it was not at its first one. */
    private static void reworksOnceByWhateverStep() {
        for (int back = 0; back < 2; back++) {
            WaferYard x = new WaferYard();
            Yards.route(x, Yards.step(0, 1));
            Yards.route(x, Yards.step(1, 1));
            Yards.route(x, Yards.measured(0, 1), Yards.measured(1, 1), Yards.step(3, 1));
            x.setRework(2, 0, back);
            x.setRework(2, 1, 1);
            Yards.drifting(x, 0, 7);
            Yards.drifting(x, 1, 7);
            x.setQualified(1, 2, 1, false);
            x.start(0, 1, 0);
            x.start(1, 1, 0);
            x.start(2, 1, 0);
            Yards.passTo(x, 11);
            EXPECT.same("by the first step", x.records(2), 1 + back);
            x.setQualified(1, 2, 1, true);
            Yards.passTo(x, 12);
            x.setQualified(1, 2, 1, false);
            Yards.passTo(x, 17);
            EXPECT.same("off by seven at the second", x.recordAt(2, 1 + back, 'd'), 7);
            EXPECT.same("ended", x.recordAt(2, 1 + back, 'e'), 14);
            x.pass(1);
            EXPECT.same("measured", x.measures(1), 1);
            EXPECT.same("reworked but once", x.stepOf(2), back == 1 ? 2 : 1);
        }
    }

    private static void reworksOnceThoughItWasHeld() {
        WaferYard x = Yards.aheadOfMeasure(9, 1, 1);
        x.setQualified(0, 1, 0, false);
        x.pass(1);
        EXPECT.same("reworked", x.stepOf(9), 0);
        x.hold(9);
        x.release(9);
        x.setQualified(0, 1, 0, true);
        x.pass(2);
        EXPECT.same("far off again", x.recordAt(9, 1, 'd'), 6);
        x.hold(9);
        x.release(9);
        x.pass(9);
        EXPECT.same("measured again", x.measures(0), 2);
        EXPECT.same("not reworked again", x.stepOf(9), 1);
    }

    /** The lot waits for the step number + 1, behind a step that is off by seven. */
    private static WaferYard behindStep(int number, int back) {
        WaferYard x = new WaferYard();
        Yards.route(x, Yards.step(0, 1));
        int[][] steps = new int[number + 2][];
        for (int i = 0; i < number; i++) {
            steps[i] = Yards.step(1, 1);
        }
        steps[number] = Yards.measured(0, 1);
        steps[number + 1] = Yards.step(3, 1);
        Yards.route(x, steps);
        x.setRework(1, number, back);
        Yards.drifting(x, 0, 7);
        Yards.tool(x, 1);
        x.start(0, 1, 0);
        x.pass(3);
        x.start(1, 1, 0);
        Yards.passTo(x, 3 * number + 9);
        for (int i = 0; i <= number; i++) {
            x.setQualified(i < number ? 1 : 0, 1, i, false);
        }
        EXPECT.same("off by seven", x.recordAt(1, number, 'd'), 7);
        EXPECT.same("waits behind", x.stepOf(1), number + 1);
        return x;
    }

    /** "The step that is by so many earlier than the one for which it waits, but not before 0." */
    private static void reworksByEachNumberOfSteps() {
        for (int number = 0; number <= 4; number++) {
            for (int back = 0; back <= 3; back++) {
                WaferYard x = behindStep(number, back);
                Yards.passTo(x, 60);
                int due = Math.max(0, number + 1 - back);
                EXPECT.same("step " + number + " by " + back, x.stepOf(1), due);
                EXPECT.same("waits, step " + number + " by " + back, x.lotState(1), 'w');
            }
        }
    }

    /** Tools are free for both steps in the tick of the measure; the lot goes back ahead of the beginnings. */
    private static void reworksAheadOfBeginnings() {
        WaferYard x = Yards.aheadOfMeasure(7, 1, 1);
        Yards.tool(x, 1);
        x.pass(1);
        EXPECT.same("at the step again", x.stepOf(7), 0);
        EXPECT.same("in its tool", x.toolOf(7), 0);
        WaferYard y = Yards.aheadOfMeasure(11, 1, 1);
        Yards.tool(y, 1);
        y.pass(1);
        EXPECT.same("held ahead of the beginnings", y.lotState(11), 'h');
        EXPECT.same("and not reworked", y.stepOf(11), 1);
        WaferYard z = Yards.aheadOfMeasure(5, 1, 1);
        Yards.tool(z, 1);
        z.pass(1);
        EXPECT.same("else it goes on", z.stepOf(5), 1);
        EXPECT.same("in the next tool", z.toolOf(5), 1);
    }
}
