/** The part "Terms", fitting: the gap and the room behind it. */
public final class GapTest {
    private static final Expect EXPECT = new Expect();

    public static void main(String[] args) {
        keepsRoomInTheGap();
        countsLotsThatWait();
        takesNoMoreThanThereIsRoom();
        countsRoom();
        hasNoGap();
        countsALotOnce();
        countsLotsOfOtherRoutes();
        addsTheCapacitiesUp();
        countsNoToolThatWorksAndNeedsARest();
        countsNoToolThatRestsByItsUse();
        hasAGapBehindEachLimit();
        countsNoLotInAToolWithoutAGap();
        countsNoLotThatWaitsWithoutALimit();
        countsNoLotThatWaitsForAnotherKind();
        countsLotsUpToTheirLimit();
        takesOneBehindOneThatDoesNotFit();
        forgetsTheBatchThatDidNotBegin();
        EXPECT.end();
    }

    private static WaferYard gapYard(int capacity) {
        WaferYard x = new WaferYard();
        Yards.route(x, Yards.limited(0, 1, 9), Yards.step(1, 2));
        Yards.tool(x, 0);
        Yards.tool(x, 0);
        x.addTool(1, capacity, 0, 50, 4, 0);
        return x;
    }

    private static void keepsRoomInTheGap() {
        WaferYard x = gapYard(1);
        x.start(0, 1, 0);
        x.start(0, 1, 0);
        EXPECT.same("there is room", x.why(1, 1), '-');
        x.pass(1);
        EXPECT.same("one began", x.toolOf(0), 0);
        EXPECT.same("no room for the other", x.lotState(1), 'w');
        EXPECT.same("by the gap", x.why(1, 1), 'g');
        x.askRest(2);
        Yards.passTo(x, 4);
        EXPECT.same("waits with a limit", x.limitOf(0), 12);
        EXPECT.same("in the gap", x.why(1, 1), 'g');
        Yards.passTo(x, 6);
        EXPECT.same("the next tool rested up to 5", x.toolOf(0), 2);
        EXPECT.same("tools of lower numbers came ahead of it", x.lotState(1), 'w');
        EXPECT.same("now it is out of the gap", x.why(1, 1), '-');
        x.pass(1);
        EXPECT.same("the other begins", x.toolOf(1), 0);
    }

    /** The tool behind the gap is patient, so that a lot stays in the gap though there is room. */
    private static void countsLotsThatWait() {
        WaferYard x = new WaferYard();
        Yards.route(x, Yards.limited(0, 1, 9), Yards.step(1, 2));
        Yards.tool(x, 0);
        Yards.tool(x, 0);
        x.addTool(1, 2, 9, 50, 4, 0);
        x.start(0, 1, 0);
        Yards.passTo(x, 4);
        EXPECT.same("one waits with a limit", x.limitOf(0), 12);
        x.start(0, 1, 0);
        x.start(0, 1, 0);
        x.pass(1);
        EXPECT.same("one is in a tool", x.lotState(1), 't');
        EXPECT.same("room for two alone", x.why(1, 2), 'g');
        x.hold(0);
        EXPECT.same("one that is held is in no gap", x.why(1, 2), '-');
        x.release(0);
        EXPECT.same("released into the gap", x.why(1, 2), 'g');
        x.scrap(0, 1);
        EXPECT.same("one that is scrapped is in no gap", x.why(1, 2), '-');
    }

    /** A batch of fewer lots than the capacity, as there is no more room. */
    private static void takesNoMoreThanThereIsRoom() {
        WaferYard x = new WaferYard();
        Yards.route(x, Yards.limited(0, 1, 9), Yards.step(1, 2));
        x.addTool(0, 3, 0, 50, 1, 0);
        x.addTool(1, 2, 0, 50, 4, 0);
        for (int i = 0; i < 3; i++) {
            x.start(0, 1, 0);
        }
        EXPECT.same("each fits alone", x.why(0, 2), '-');
        x.pass(1);
        EXPECT.same("the first", x.lotState(0), 't');
        EXPECT.same("the second beside it", x.lotState(1), 't');
        EXPECT.same("no room for the third", x.lotState(2), 'w');
        WaferYard y = new WaferYard();
        Yards.route(y, Yards.limited(0, 1, 9), Yards.step(1, 2));
        y.addTool(0, 3, 4, 50, 1, 0);
        y.addTool(1, 2, 0, 50, 4, 0);
        for (int i = 0; i < 3; i++) {
            y.start(0, 1, 0);
        }
        y.pass(4);
        EXPECT.same("fewer than the capacity wait", y.lotState(0), 'w');
        y.pass(1);
        EXPECT.same("for its patience", y.lotState(1), 't');
        EXPECT.same("still no third", y.lotState(2), 'w');
        WaferYard z = new WaferYard();
        Yards.route(z, Yards.limited(0, 1, 9), Yards.step(1, 2));
        z.addTool(0, 2, 0, 50, 1, 0);
        Yards.tool(z, 1);
        z.start(0, 1, 0);
        z.start(0, 1, 0);
        z.pass(1);
        EXPECT.same("room for one", z.lotState(0), 't');
        EXPECT.same("and not for two", z.lotState(1), 'w');
    }

    private static void countsRoom() {
        WaferYard x = new WaferYard();
        Yards.route(x, Yards.limited(0, 1, 9), Yards.step(1, 2));
        x.addTool(0, 3, 0, 50, 1, 0);
        EXPECT.same("a lot", x.start(0, 1, 0), 0);
        EXPECT.same("no tool, no room", x.why(0, 0), 'g');
        Yards.tool(x, 2);
        EXPECT.same("none of the kind", x.why(0, 0), 'g');
        x.addTool(1, 1, 0, 1, 3, 0);
        EXPECT.same("one of the kind", x.why(0, 0), '-');
        x.setQualified(2, 0, 1, false);
        EXPECT.same("not qualified for the next step", x.why(0, 0), 'g');
        x.setQualified(2, 0, 1, true);
        x.askRest(2);
        EXPECT.same("needs a rest", x.why(0, 0), 'g');
        x.pass(1);
        EXPECT.same("rests", x.toolState(2), 'r');
        EXPECT.same("no room while it rests", x.why(0, 0), 'g');
        x.pass(2);
        EXPECT.same("still rests", x.lotState(0), 'w');
        x.pass(1);
        EXPECT.same("room when it is idle", x.lotState(0), 't');
        WaferYard y = new WaferYard();
        Yards.route(y, Yards.limited(0, 1, 9), Yards.step(1, 9));
        Yards.route(y, Yards.step(1, 9));
        y.addTool(0, 1, 0, 50, 1, 0);
        y.addTool(1, 1, 0, 50, 3, 0);
        y.start(1, 1, 0);
        y.start(0, 1, 0);
        y.pass(1);
        EXPECT.same("a tool that works is room", y.lotState(1), 't');
    }

    private static void hasNoGap() {
        WaferYard x = new WaferYard();
        Yards.route(x, Yards.step(0, 1), Yards.step(1, 1));
        Yards.route(x, Yards.limited(0, 1, 5));
        Yards.tool(x, 0);
        x.start(0, 1, 0);
        x.start(1, 1, 0);
        EXPECT.same("without a limit", x.why(0, 0), '-');
        EXPECT.same("the last step", x.why(0, 1), '-');
    }

    /** The lot itself waits with a limit for a step of the kind behind it. */
    private static void countsALotOnce() {
        WaferYard x = new WaferYard();
        Yards.route(x, Yards.limited(0, 1, 20), Yards.limited(0, 1, 20), Yards.step(0, 1));
        x.addTool(0, 1, 0, 50, 1, 0);
        x.start(0, 1, 0);
        x.pass(3);
        x.askRest(0);
        x.pass(1);
        EXPECT.same("waits with a limit", x.limitOf(0), 23);
        EXPECT.same("for the next", x.stepOf(0), 1);
        x.pass(1);
        EXPECT.same("is one alone", x.lotState(0), 't');
        EXPECT.same("at the next", x.stepOf(0), 1);
    }

    private static void countsLotsOfOtherRoutes() {
        WaferYard x = new WaferYard();
        Yards.route(x, Yards.limited(0, 5, 9), Yards.step(2, 1));
        Yards.route(x, Yards.limited(1, 5, 9), Yards.step(2, 1));
        Yards.route(x, Yards.limited(1, 5, 9), Yards.step(3, 1));
        Yards.tool(x, 0);
        Yards.tool(x, 1);
        Yards.tool(x, 2);
        Yards.tool(x, 3);
        x.start(0, 1, 0);
        x.pass(1);
        x.start(1, 1, 0);
        x.start(2, 1, 0);
        EXPECT.same("another route, the same kind behind", x.why(1, 1), 'g');
        EXPECT.same("another kind behind", x.why(1, 2), '-');
    }

    /** Three lots and two tools behind the gap, each in all its capacities: as many begin as there is room. */
    private static void addsTheCapacitiesUp() {
        for (int one = 1; one <= 3; one++) {
            for (int other = 0; other <= 3; other++) {
                WaferYard x = new WaferYard();
                Yards.route(x, Yards.limited(0, 1, 30), Yards.step(2, 1));
                x.addTool(0, 3, 0, 50, 1, 0);
                x.addTool(0, 3, 0, 50, 1, 0);
                x.addTool(2, one, 0, 50, 1, 0);
                if (other > 0) {
                    x.addTool(2, other, 0, 50, 1, 0);
                }
                for (int i = 0; i < 7; i++) {
                    x.start(0, 1, 0);
                }
                x.pass(1);
                int begun = 0;
                for (int i = 0; i < 7; i++) {
                    begun += x.lotState(i) == 't' ? 1 : 0;
                }
                EXPECT.same("room of " + one + " and " + other, begun, one + other);
                EXPECT.same("the last one waits", x.lotState(6), 'w');
            }
        }
    }

    private static void countsNoToolThatWorksAndNeedsARest() {
        WaferYard x = new WaferYard();
        Yards.route(x, Yards.limited(0, 1, 9), Yards.step(1, 2));
        Yards.route(x, Yards.step(1, 9));
        Yards.tool(x, 0);
        Yards.tool(x, 1);
        x.start(1, 1, 0);
        x.pass(1);
        x.start(0, 1, 0);
        EXPECT.same("it works", x.toolState(1), 'p');
        EXPECT.same("and is room", x.why(0, 1), '-');
        x.askRest(1);
        EXPECT.same("it works and needs a rest", x.toolState(1), 'n');
        EXPECT.same("and is none", x.why(0, 1), 'g');
    }

    /** Steps of the kind 2 come behind a step without a limit; a last step has one; both are at work. */
    private static void countsNoLotInAToolWithoutAGap() {
        WaferYard x = new WaferYard();
        Yards.route(x, Yards.limited(0, 1, 9), Yards.step(2, 1));
        Yards.route(x, Yards.step(1, 9), Yards.step(2, 1));
        Yards.route(x, Yards.limited(3, 9, 9));
        Yards.tool(x, 0);
        Yards.tool(x, 1);
        Yards.tool(x, 2);
        Yards.tool(x, 3);
        x.start(1, 1, 0);
        x.start(2, 1, 0);
        x.pass(1);
        EXPECT.same("at a step without a limit", x.toolOf(0), 1);
        EXPECT.same("at a last step", x.toolOf(1), 3);
        x.start(0, 1, 0);
        EXPECT.same("none of them is in the gap", x.why(0, 2), '-');
    }

    /** One lot waits for its first step, and one behind a step without a limit, both of the kind behind the gap. */
    private static void countsNoLotThatWaitsWithoutALimit() {
        WaferYard x = new WaferYard();
        Yards.route(x, Yards.limited(0, 1, 9), Yards.step(2, 1));
        Yards.route(x, Yards.step(2, 1));
        Yards.route(x, Yards.step(1, 1), Yards.step(2, 1));
        Yards.tool(x, 0);
        Yards.tool(x, 1);
        Yards.tool(x, 2);
        x.setQualified(2, 1, 0, false);
        x.setQualified(2, 2, 1, false);
        x.start(1, 1, 0);
        x.start(2, 1, 0);
        x.pass(5);
        EXPECT.same("waits for its first step", x.lotState(0), 'w');
        EXPECT.same("waits behind a step", x.stepOf(1), 1);
        x.start(0, 1, 0);
        EXPECT.same("none of them is in the gap", x.why(0, 2), '-');
    }

    private static void countsNoLotThatWaitsForAnotherKind() {
        WaferYard x = new WaferYard();
        Yards.route(x, Yards.limited(0, 1, 9), Yards.step(2, 1));
        Yards.route(x, Yards.limited(1, 1, 30), Yards.step(3, 1));
        Yards.tool(x, 0);
        Yards.tool(x, 1);
        Yards.tool(x, 2);
        Yards.tool(x, 3);
        x.start(1, 1, 0);
        x.pass(1);
        x.setQualified(3, 1, 1, false);
        x.pass(4);
        EXPECT.same("waits with a limit", x.limitOf(0), 33);
        x.start(0, 1, 0);
        EXPECT.same("but for another kind", x.why(0, 1), '-');
    }

    /** A lot whose limit is up counts until it is held by it; released, it has none and counts no more. */
    private static void countsLotsUpToTheirLimit() {
        WaferYard x = new WaferYard();
        Yards.route(x, Yards.limited(0, 1, 4), Yards.step(1, 2));
        Yards.tool(x, 0);
        Yards.tool(x, 1);
        Yards.tool(x, 0);
        x.start(0, 1, 0);
        x.pass(3);
        x.addTool(1, 1, 9, 50, 1, 0);
        x.setQualified(1, 0, 1, false);
        x.setQualified(3, 0, 1, false);
        x.pass(5);
        EXPECT.same("up in the tick that went", x.limitOf(0), 7);
        x.setQualified(3, 0, 1, true);
        x.start(0, 1, 0);
        EXPECT.same("not held yet", x.lotState(0), 'w');
        EXPECT.same("still in the gap", x.why(0, 1), 'g');
        x.setQualified(0, 0, 0, false);
        x.setQualified(2, 0, 0, false);
        x.pass(1);
        EXPECT.same("held by its limit", x.causeOf(0), 'q');
        x.setQualified(0, 0, 0, true);
        EXPECT.same("in no gap", x.why(0, 1), '-');
        x.setQualified(3, 0, 1, false);
        x.release(0);
        x.setQualified(1, 0, 1, true);
        EXPECT.same("in none without a limit", x.why(0, 1), '-');
    }

    /**
     * The lots 0 and 1 wait for the step without a limit, the lot 2 with one, which is in the gap
     * already; beside the lot 0 there is room for one more in the gap, but the lot 1 would be a third.
     */
    private static void takesOneBehindOneThatDoesNotFit() {
        WaferYard x = new WaferYard();
        Yards.route(x, Yards.limited(0, 1, 3), Yards.limited(0, 1, 20), Yards.step(0, 1));
        x.addTool(0, 2, 0, 50, 1, 0);
        x.start(0, 2, 0);
        x.pass(3);
        x.setQualified(0, 0, 1, false);
        x.pass(5);
        EXPECT.same("held by its limit", x.causeOf(0), 'q');
        x.split(0, 1);
        x.setQualified(0, 0, 1, true);
        x.start(0, 1, 0);
        x.pass(1);
        EXPECT.same("at the first step", x.lotState(2), 't');
        x.release(0);
        x.release(1);
        EXPECT.same("the tool works", x.why(0, 0), 't');
        x.pass(1);
        EXPECT.same("the first fits", x.lotState(0), 't');
        EXPECT.same("the second does not fit beside it", x.lotState(1), 'w');
        EXPECT.same("the third does", x.lotState(2), 't');
        EXPECT.same("for the same step", x.stepOf(2), 1);
    }

    /** Two of three lots would be taken, but wait for the patience of the tool; no lot is in the gap. */
    private static void forgetsTheBatchThatDidNotBegin() {
        WaferYard x = new WaferYard();
        Yards.route(x, Yards.limited(0, 1, 9), Yards.step(1, 2));
        x.addTool(1, 2, 0, 50, 4, 0);
        x.addTool(0, 3, 4, 50, 1, 0);
        for (int i = 0; i < 3; i++) {
            x.start(0, 1, 0);
        }
        x.pass(1);
        for (int i = 0; i < 3; i++) {
            EXPECT.same("lot " + i + " waits", x.lotState(i), 'w');
            EXPECT.same("lot " + i + " fits alone", x.why(1, i), '-');
        }
    }

    private static void countsNoToolThatRestsByItsUse() {
        WaferYard x = new WaferYard();
        Yards.route(x, Yards.limited(0, 1, 9), Yards.step(1, 2));
        Yards.route(x, Yards.step(1, 1));
        Yards.tool(x, 0);
        x.addTool(1, 1, 0, 1, 5, 0);
        x.start(1, 1, 0);
        x.pass(4);
        EXPECT.same("it rests up to 8", x.toolState(1), 'r');
        x.start(0, 1, 0);
        EXPECT.same("no room while it rests, though it was told of no need", x.why(0, 1), 'g');
        Yards.passTo(x, 8);
        EXPECT.same("waits", x.lotState(1), 'w');
        x.pass(1);
        EXPECT.same("room when it is idle", x.lotState(1), 't');
    }

    private static void hasAGapBehindEachLimit() {
        for (int limit = 0; limit <= 30; limit++) {
            WaferYard x = new WaferYard();
            Yards.route(x, Yards.limited(0, 1, limit), Yards.step(3, 1));
            Yards.tool(x, 0);
            x.start(0, 1, 0);
            EXPECT.same("no room behind the limit " + limit, x.why(0, 0), limit == 0 ? '-' : 'g');
        }
    }
}
