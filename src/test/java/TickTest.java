import java.util.NoSuchElementException;

/** The part "Terms": how a tick goes but for its measures: ends, rests, limits and beginnings. */
public final class TickTest {
    private static final Class<NoSuchElementException> NONE = NoSuchElementException.class;
    private static final Expect EXPECT = new Expect();

    public static void main(String[] args) {
        endsBatches();
        endsByNumbersOfTools();
        setsLimits();
        holdsLateLots();
        rests();
        restForgets();
        keepsAndMissesLimits();
        hasNoLimitBehindALimitOfNone();
        worksUpToItsTicks();
        setsUpForEachOtherStep();
        givesToToolsByNumbers();
        waitsForOneOfThem();
        waitsNotForOneThatIsNotTaken();
        waitsForEachPatience();
        restsUpToItsRest();
        restsWhenItsUseIsAtLeast();
        restForgetsAllCorrections();
        forgetsWhatItWasToldWhileItRested();
        hearsWhatItIsToldInTheTickOfItsEnd();
        excursionComesAheadOfLimits();
        reworkComesAheadOfLimits();
        EXPECT.end();
    }

    private static void endsBatches() {
        WaferYard x = new WaferYard();
        Yards.route(x, Yards.step(0, 2), Yards.step(1, 1));
        x.addTool(0, 2, 0, 50, 5, 3);
        for (int i = 0; i < 4; i++) {
            x.start(0, 10 + i, 0);
        }
        x.pass(1);
        EXPECT.same("two at once", x.toolOf(1), 0);
        EXPECT.same("no third", x.lotState(2), 'w');
        EXPECT.same("use comes at the end", x.useOf(0), 0);
        x.pass(3);
        EXPECT.same("with two ticks of setup", x.lotState(0), 't');
        EXPECT.same("no moves yet", x.moves(), 0);
        x.pass(1);
        EXPECT.same("waits for the next step", x.lotState(0), 'w');
        EXPECT.same("the next step", x.stepOf(0), 1);
        EXPECT.same("use by lots", x.useOf(0), 2);
        EXPECT.same("drift by batches", x.driftOf(0), 3);
        EXPECT.same("deviation before the drift", x.recordAt(1, 0, 'd'), 0);
        EXPECT.same("moves by wafers", x.moves(), 21);
        EXPECT.same("begins in the tick of the end", x.lotState(2), 't');
        x.pass(2);
        EXPECT.same("no setup again", x.recordAt(3, 0, 'e'), 6);
        EXPECT.same("begin", x.recordAt(3, 0, 'b'), 4);
        EXPECT.same("deviation", x.recordAt(3, 0, 'd'), 3);
        EXPECT.same("drift again", x.driftOf(0), 6);
        EXPECT.same("use again", x.useOf(0), 4);
    }

    /** Lots go on in the very tick of their end, in tools of any number. */
    private static void endsByNumbersOfTools() {
        WaferYard x = new WaferYard();
        Yards.route(x, Yards.step(1, 1), Yards.step(0, 1));
        Yards.tool(x, 0);
        Yards.tool(x, 1);
        x.start(0, 1, 0);
        x.pass(4);
        EXPECT.same("in the first tool", x.toolOf(0), 0);
        x.pass(3);
        EXPECT.same("begin of the second step", x.recordAt(0, 1, 'b'), 3);
        EXPECT.same("end of the second step", x.recordAt(0, 1, 'e'), 6);
    }

    private static void setsLimits() {
        WaferYard x = new WaferYard();
        Yards.route(x, Yards.limited(0, 1, 4), Yards.limited(1, 1, 5));
        Yards.tool(x, 0);
        x.addTool(1, 2, 2, 50, 1, 0);
        x.start(0, 1, 0);
        x.pass(3);
        EXPECT.thrown("no limit in the tool", NONE, () -> x.limitOf(0));
        x.pass(1);
        EXPECT.same("end plus limit", x.limitOf(0), 7);
        x.pass(2);
        EXPECT.same("begun", x.toolOf(0), 1);
        EXPECT.thrown("no limit when begun", NONE, () -> x.limitOf(0));
        x.pass(4);
        EXPECT.same("done", x.lotState(0), 'd');
        EXPECT.thrown("no limit behind the last step", NONE, () -> x.limitOf(0));
    }

    private static void holdsLateLots() {
        WaferYard x = new WaferYard();
        Yards.route(x, Yards.limited(0, 1, 5), Yards.step(1, 1));
        Yards.tool(x, 0);
        x.addTool(1, 1, 0, 50, 9, 0);
        x.start(0, 1, 0);
        x.pass(1);
        x.askRest(1);
        Yards.passTo(x, 9);
        EXPECT.same("in the tick of the limit it waits", x.lotState(0), 'w');
        EXPECT.same("its limit", x.limitOf(0), 8);
        x.pass(1);
        EXPECT.same("held one tick later", x.lotState(0), 'h');
        EXPECT.same("by a limit", x.causeOf(0), 'q');
        EXPECT.thrown("has no limit then", NONE, () -> x.limitOf(0));
        EXPECT.same("held at its step", x.stepOf(0), 1);
        Yards.passTo(x, 12);
        EXPECT.same("stays held", x.lotState(0), 'h');
        beginsInTheTickOfItsLimit();
    }

    private static void beginsInTheTickOfItsLimit() {
        WaferYard x = new WaferYard();
        Yards.route(x, Yards.limited(0, 1, 7), Yards.step(1, 1));
        Yards.tool(x, 0);
        x.addTool(1, 1, 0, 50, 9, 0);
        x.start(0, 1, 0);
        x.pass(1);
        x.askRest(1);
        Yards.passTo(x, 11);
        EXPECT.same("rested up to 10, begun at 10", x.toolOf(0), 1);
    }

    private static void rests() {
        WaferYard x = new WaferYard();
        Yards.route(x, Yards.step(0, 1));
        x.addTool(0, 2, 0, 3, 4, 1);
        for (int i = 0; i < 6; i++) {
            x.start(0, 1, 0);
        }
        Yards.passTo(x, 4);
        EXPECT.same("two of three", x.toolState(0), 'p');
        x.pass(1);
        EXPECT.same("four are at least three", x.toolState(0), 'r');
        EXPECT.same("its use while it rests", x.useOf(0), 4);
        EXPECT.same("its drift while it rests", x.driftOf(0), 2);
        EXPECT.same("its setup while it rests", x.setupOf(0), 0);
        Yards.passTo(x, 8);
        EXPECT.same("up to 8", x.toolState(0), 'r');
        EXPECT.same("others wait", x.lotState(4), 'w');
        x.pass(1);
        EXPECT.same("begins in the tick in which the rest ends", x.lotState(4), 't');
        EXPECT.same("no use", x.useOf(0), 0);
        EXPECT.same("no drift", x.driftOf(0), 0);
        x.pass(3);
        EXPECT.same("had no setup", x.recordAt(4, 0, 'e'), 11);
    }

    private static void restForgets() {
        WaferYard x = new WaferYard();
        Yards.route(x, Yards.measured(0, 1));
        x.addTool(0, 1, 0, 50, 2, 4);
        x.start(0, 1, 0);
        x.start(0, 1, 0);
        Yards.passTo(x, 8);
        EXPECT.same("corrected", x.correction(0, 0, 0), -2);
        x.askRest(0);
        x.pass(1);
        EXPECT.same("correction while it rests", x.correction(0, 0, 0), -2);
        EXPECT.same("told while it rests", x.askRest(0), false);
        x.pass(2);
        EXPECT.same("idle", x.toolState(0), 'i');
        EXPECT.same("no correction", x.correction(0, 0, 0), 0);
        EXPECT.thrown("no setup", NONE, () -> x.setupOf(0));
        EXPECT.same("measures are not forgotten", x.measures(0), 2);
        EXPECT.same("needs none", x.askRest(0), true);
    }

    /** A lot that ended its step in the tick 3, and waits for a tool that is not qualified for the next. */
    private static WaferYard endedAtThree(int limit) {
        WaferYard x = new WaferYard();
        Yards.route(x, Yards.limited(0, 1, limit), Yards.step(1, 1));
        Yards.tool(x, 0);
        Yards.tool(x, 1);
        x.start(0, 1, 0);
        x.pass(3);
        x.setQualified(1, 0, 1, false);
        x.pass(1);
        return x;
    }

    /** "At the latest in the tick of this end plus the limit"; "in an earlier tick". */
    private static void keepsAndMissesLimits() {
        for (int limit : new int[] {1, 2, 29, 30}) {
            int latest = 3 + limit;
            WaferYard kept = endedAtThree(limit);
            EXPECT.same("limit " + limit, kept.limitOf(0), latest);
            Yards.passTo(kept, latest);
            EXPECT.same("not begun yet", kept.lotState(0), 'w');
            kept.setQualified(1, 0, 1, true);
            kept.pass(1);
            EXPECT.same("just kept, limit " + limit, kept.toolOf(0), 1);
            kept.pass(3);
            EXPECT.same("begun in the last tick, limit " + limit, kept.recordAt(0, 1, 'b'), latest);
            WaferYard missed = endedAtThree(limit);
            Yards.passTo(missed, latest + 1);
            EXPECT.same("not yet held, limit " + limit, missed.lotState(0), 'w');
            missed.setQualified(1, 0, 1, true);
            missed.pass(1);
            EXPECT.same("just missed, limit " + limit, missed.causeOf(0), 'q');
            EXPECT.thrown("none then, limit " + limit, NONE, () -> missed.limitOf(0));
        }
    }

    private static void hasNoLimitBehindALimitOfNone() {
        WaferYard x = endedAtThree(0);
        EXPECT.same("waits for the next", x.stepOf(0), 1);
        EXPECT.thrown("0 is none", NONE, () -> x.limitOf(0));
        Yards.passTo(x, 60);
        EXPECT.same("waits as long as it must", x.lotState(0), 'w');
        x.setQualified(1, 0, 1, true);
        x.pass(1);
        EXPECT.same("and begins", x.lotState(0), 't');
    }

    /** "Up to this tick plus the ticks of the step, plus 2 if the setup is not that of the step." */
    private static void worksUpToItsTicks() {
        for (int ticks : new int[] {1, 2, 8, 9}) {
            WaferYard x = new WaferYard();
            Yards.route(x, Yards.step(0, ticks));
            Yards.tool(x, 0);
            x.start(0, 1, 0);
            x.start(0, 1, 0);
            Yards.passTo(x, ticks + 2);
            EXPECT.same("still works, ticks " + ticks, x.lotState(0), 't');
            x.pass(1);
            EXPECT.same("ended, ticks " + ticks, x.recordAt(0, 0, 'e'), ticks + 2);
            Yards.passTo(x, 2 * ticks + 2);
            EXPECT.same("the next still works, ticks " + ticks, x.lotState(1), 't');
            x.pass(1);
            EXPECT.same("the next without setup, ticks " + ticks, x.recordAt(1, 0, 'e'), 2 * ticks + 2);
        }
    }

    private static void setsUpForEachOtherStep() {
        WaferYard x = new WaferYard();
        Yards.route(x, Yards.step(0, 1), Yards.step(0, 1));
        Yards.route(x, Yards.step(0, 1));
        Yards.tool(x, 0);
        x.start(0, 1, 0);
        Yards.passTo(x, 10);
        EXPECT.same("another step of the route", x.recordAt(0, 1, 'e'), 6);
        x.start(1, 1, 0);
        Yards.passTo(x, 20);
        EXPECT.same("a step of another route", x.recordAt(1, 0, 'e'), 13);
        x.start(0, 1, 0);
        Yards.passTo(x, 30);
        EXPECT.same("back to the first step", x.recordAt(2, 0, 'e'), 23);
        EXPECT.same("and to the second", x.recordAt(2, 1, 'e'), 26);
        x.setRule('s', '-', '-', '-');
        x.start(0, 1, 0);
        x.start(0, 1, 0);
        Yards.passTo(x, 40);
        EXPECT.same("the first of two", x.recordAt(3, 0, 'e'), 33);
        EXPECT.same("the other one, the same step", x.recordAt(4, 0, 'e'), 34);
    }

    private static void givesToToolsByNumbers() {
        WaferYard x = new WaferYard();
        Yards.route(x, Yards.step(0, 5));
        Yards.tool(x, 0);
        Yards.tool(x, 0);
        Yards.tool(x, 0);
        x.start(0, 1, 0);
        x.start(0, 1, 0);
        x.pass(1);
        EXPECT.same("the first lot to the first tool", x.toolOf(0), 0);
        EXPECT.same("the second lot to the second tool", x.toolOf(1), 1);
        EXPECT.same("none for the third", x.toolState(2), 'i');
        x.start(0, 1, 0);
        x.pass(1);
        EXPECT.same("the lowest that is idle", x.toolOf(2), 2);
    }

    /** The first of the batch waits since 3, the other one since 0. */
    private static void waitsForOneOfThem() {
        WaferYard x = new WaferYard();
        Yards.route(x, Yards.step(0, 1));
        x.addTool(0, 3, 4, 50, 1, 0);
        x.start(0, 1, 0);
        x.start(0, 1, 0);
        x.hold(0);
        x.pass(3);
        x.release(0);
        x.pass(1);
        EXPECT.same("none has waited long enough", x.toolState(0), 'i');
        x.pass(1);
        EXPECT.same("one of them has", x.lotState(1), 't');
        EXPECT.same("and takes the other along", x.lotState(0), 't');
    }

    /** The lot of the other route waits since 0, but is not of the batch. */
    private static void waitsNotForOneThatIsNotTaken() {
        WaferYard x = new WaferYard();
        Yards.route(x, Yards.step(0, 1));
        Yards.route(x, Yards.step(0, 1));
        x.addTool(0, 2, 4, 50, 1, 0);
        x.start(0, 1, 0);
        x.start(1, 1, 0);
        x.hold(0);
        x.pass(3);
        x.release(0);
        Yards.passTo(x, 7);
        EXPECT.same("the other one has waited, but is not taken", x.toolState(0), 'i');
        x.pass(1);
        EXPECT.same("the first has waited", x.lotState(0), 't');
        EXPECT.same("alone", x.lotState(1), 'w');
    }

    private static void waitsForEachPatience() {
        for (int patience : new int[] {0, 1, 8, 9}) {
            WaferYard x = new WaferYard();
            Yards.route(x, Yards.step(0, 1));
            x.addTool(0, 2, patience, 50, 1, 0);
            x.pass(5);
            x.start(0, 1, 0);
            Yards.passTo(x, 5 + patience);
            EXPECT.same("not before its patience " + patience, x.lotState(0), 'w');
            x.pass(1);
            EXPECT.same("with its patience " + patience, x.lotState(0), 't');
        }
    }

    private static void restsUpToItsRest() {
        for (int rest : new int[] {1, 2, 8, 9}) {
            WaferYard x = new WaferYard();
            Yards.route(x, Yards.step(0, 1));
            x.addTool(0, 1, 0, 1, rest, 0);
            x.start(0, 1, 0);
            x.start(0, 1, 0);
            Yards.passTo(x, 3 + rest);
            EXPECT.same("rests, " + rest, x.toolState(0), 'r');
            EXPECT.same("its use is not forgotten yet, " + rest, x.useOf(0), 1);
            x.pass(1);
            EXPECT.same("begins in the tick of its end, " + rest, x.lotState(1), 't');
            EXPECT.same("its use is forgotten, " + rest, x.useOf(0), 0);
            x.pass(3);
            EXPECT.same("begun with the end of the rest", x.recordAt(1, 0, 'b'), 3 + rest);
        }
    }

    /** A lot for each use, but for one behind it; each ends a step in each tick. */
    private static void restsWhenItsUseIsAtLeast() {
        for (int use : new int[] {1, 2, 15, 49, 50}) {
            WaferYard x = new WaferYard();
            Yards.route(x, Yards.step(0, 1), Yards.step(0, 1), Yards.step(0, 1), Yards.step(0, 1));
            x.addTool(0, 1, 0, use, 9, 0);
            for (int i = 0; i < 16; i++) {
                x.start(0, 1, 0);
            }
            int most = 0;
            while (x.toolState(0) == 'i' || x.toolState(0) == 'p') {
                most = Math.max(most, x.useOf(0));
                x.pass(1);
            }
            EXPECT.same("works while its use is less than " + use, most, use - 1);
            EXPECT.same("rests with a use of " + use, x.useOf(0), use);
            EXPECT.same("rests", x.toolState(0), 'r');
        }
        restsWhenItsUseIsMore();
    }

    private static void restsWhenItsUseIsMore() {
        WaferYard x = new WaferYard();
        Yards.route(x, Yards.step(0, 1));
        x.addTool(0, 3, 0, 2, 9, 0);
        for (int i = 0; i < 4; i++) {
            x.start(0, 1, 0);
        }
        x.pass(4);
        EXPECT.same("three at once", x.useOf(0), 3);
        EXPECT.same("three are more than two", x.toolState(0), 'r');
        EXPECT.same("the fourth waits", x.lotState(3), 'w');
    }

    /** The tool is corrected for the first step, another step of its route, and the last step of the last route. */
    private static void restForgetsAllCorrections() {
        WaferYard x = new WaferYard();
        Yards.route(x, Yards.measured(0, 1), Yards.measured(0, 1));
        Yards.route(x, Yards.step(0, 1));
        int[][] steps = new int[12][];
        for (int i = 0; i < 12; i++) {
            steps[i] = i < 11 ? Yards.step(1, 1) : Yards.measured(0, 1);
        }
        Yards.route(x, steps);
        x.addTool(0, 1, 0, 50, 1, 2);
        Yards.tool(x, 1);
        x.start(1, 1, 0);
        x.start(0, 1, 0);
        x.start(2, 1, 0);
        // Deviations of 2, 4 and 6 end at 6, 9 and 36.
        Yards.passTo(x, 40);
        int[][] corrected = {{0, 0}, {0, 1}, {2, 11}};
        for (int[] c : corrected) {
            EXPECT.same("corrected for " + c[0] + " " + c[1], x.correction(0, c[0], c[1]) != 0, true);
        }
        x.askRest(0);
        x.pass(1);
        for (int[] c : corrected) {
            EXPECT.same("kept while it rests", x.correction(0, c[0], c[1]) != 0, true);
        }
        x.pass(1);
        for (int[] c : corrected) {
            EXPECT.same("forgotten for " + c[0] + " " + c[1], x.correction(0, c[0], c[1]), 0);
        }
    }

    /** Three lots end at 3, 4 and 7; the tool rests from 7 on; the last one's deviation of 12 is measured at 10. */
    private static WaferYard farOffAheadOfARest(int rest) {
        WaferYard x = new WaferYard();
        Yards.route(x, Yards.step(0, 1));
        Yards.route(x, Yards.measured(0, 1), Yards.step(3, 1));
        x.addTool(0, 1, 0, 3, rest, 6);
        x.start(0, 1, 0);
        x.start(0, 1, 0);
        x.start(1, 1, 0);
        Yards.passTo(x, 10);
        EXPECT.same("no measure yet", x.measures(0), 0);
        x.pass(1);
        EXPECT.same("an excursion", x.excursions(), 1);
        EXPECT.same("held by it", x.causeOf(2), 'e');
        EXPECT.same("corrected", x.correction(0, 1, 0), -6);
        EXPECT.same("rests, rest " + rest, x.toolState(0), 'r');
        return x;
    }

    /** "It needs none, whatever it was told while it rested." */
    private static void forgetsWhatItWasToldWhileItRested() {
        WaferYard x = farOffAheadOfARest(4);
        EXPECT.same("told so while it rests", x.askRest(0), false);
        x.pass(1);
        EXPECT.same("needs none behind its rest", x.toolState(0), 'i');
        EXPECT.same("forgot the correction", x.correction(0, 1, 0), 0);
        WaferYard y = new WaferYard();
        Yards.route(y, Yards.measured(0, 1));
        y.addTool(0, 1, 0, 5, 9, 1);
        for (int i = 0; i < 5; i++) {
            y.start(0, 1, 0);
        }
        // Ends at 3 to 7 with 0 to 4; rests from 7 to 16; the fourth above 0 is measured at 10.
        Yards.passTo(y, 16);
        EXPECT.same("five measures", y.measures(0), 5);
        EXPECT.same("rests", y.toolState(0), 'r');
        y.pass(1);
        EXPECT.same("forgot the last four, too", y.toolState(0), 'i');
    }

    /** Rests end ahead of the measures that come in the same tick. */
    private static void hearsWhatItIsToldInTheTickOfItsEnd() {
        WaferYard x = farOffAheadOfARest(3);
        EXPECT.same("no use since it rested", x.useOf(0), 0);
        EXPECT.same("no drift since it rested", x.driftOf(0), 0);
        x.pass(2);
        EXPECT.same("rests again", x.toolState(0), 'r');
        x.pass(1);
        EXPECT.same("up to 13", x.toolState(0), 'i');
        EXPECT.same("forgot the correction", x.correction(0, 1, 0), 0);
    }

    /** A lot whose limit of 2 is up in the tick in which it is measured, with a deviation of the shift times count. */
    private static WaferYard lateWhenMeasured(int count, int shift) {
        WaferYard x = new WaferYard();
        Yards.route(x, Yards.step(0, 1));
        Yards.route(x, new int[] {0, 1, 2, -1, 1}, Yards.step(1, 1));
        x.setRework(1, 0, 1);
        Yards.drifting(x, 0, shift);
        Yards.tool(x, 1);
        for (int i = 0; i < count; i++) {
            x.start(0, 1, 0);
        }
        x.start(1, 1, 0);
        Yards.passTo(x, count + 5);
        x.setQualified(0, 1, 0, false);
        x.setQualified(1, 1, 1, false);
        Yards.passTo(x, count + 8);
        EXPECT.same("its limit", x.limitOf(count), count + 7);
        EXPECT.same("waits", x.lotState(count), 'w');
        x.pass(1);
        return x;
    }

    private static void excursionComesAheadOfLimits() {
        WaferYard x = lateWhenMeasured(2, 9);
        EXPECT.same("held by the excursion", x.causeOf(2), 'e');
        EXPECT.same("with the limit that it has", x.limitOf(2), 9);
        x.release(2);
        x.pass(1);
        EXPECT.same("then by its limit", x.causeOf(2), 'q');
        WaferYard y = lateWhenMeasured(2, 0);
        EXPECT.same("else at once by its limit", y.causeOf(2), 'q');
    }

    private static void reworkComesAheadOfLimits() {
        WaferYard x = lateWhenMeasured(1, 7);
        EXPECT.same("reworked, not held", x.lotState(1), 'w');
        EXPECT.same("waits for the step again", x.stepOf(1), 0);
        EXPECT.thrown("without a limit", NONE, () -> x.limitOf(1));
    }
}
