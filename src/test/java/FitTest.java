/** The part "Terms": what fits a tool, and what it takes at once (promises 15 and 32). */
public final class FitTest {
    private static final Expect EXPECT = new Expect();

    public static void main(String[] args) {
        takesOneStepOfOneRoute();
        waitsForItsPatience();
        beginsWhenFull();
        tellsTheFirstReason();
        bindsLayers();
        bindsByKindAndLayer();
        bindsLotsThatAreReworked();
        bindsEachLayerOfEachKind();
        tellsTheFirstOfAllReasons();
        tellsAnotherKindAheadOfTheGap();
        takesUpToItsCapacity();
        EXPECT.end();
    }

    private static void takesOneStepOfOneRoute() {
        WaferYard x = new WaferYard();
        Yards.route(x, Yards.step(0, 2), Yards.step(0, 1));
        Yards.route(x, Yards.step(0, 2));
        x.addTool(0, 3, 0, 50, 1, 0);
        x.start(0, 1, 0);
        x.start(1, 1, 0);
        x.start(0, 1, 0);
        x.pass(1);
        EXPECT.same("the first", x.lotState(0), 't');
        EXPECT.same("another route's waits", x.lotState(1), 'w');
        EXPECT.same("the same step's", x.lotState(2), 't');
        x.start(0, 1, 0);
        x.setRule('l', '-', '-', '-');
        x.pass(3);
        x.hold(1);
        x.pass(1);
        EXPECT.same("the next step", x.toolOf(0), 0);
        EXPECT.same("the next step too", x.stepOf(2), 1);
        EXPECT.same("another step waits", x.lotState(3), 'w');
    }

    private static void waitsForItsPatience() {
        WaferYard x = new WaferYard();
        Yards.route(x, Yards.step(0, 2));
        x.addTool(0, 3, 3, 50, 1, 0);
        x.start(0, 1, 0);
        x.pass(2);
        x.start(0, 1, 0);
        x.pass(1);
        EXPECT.same("not yet", x.lotState(0), 'w');
        EXPECT.same("idle", x.toolState(0), 'i');
        x.pass(1);
        EXPECT.same("waited for its patience", x.lotState(0), 't');
        EXPECT.same("the other goes with it", x.lotState(1), 't');
        EXPECT.same("at 3", x.toolState(0), 'p');
        WaferYard y = new WaferYard();
        Yards.route(y, Yards.step(0, 2));
        y.addTool(0, 2, 9, 50, 1, 0);
        y.start(0, 1, 0);
        y.pass(9);
        EXPECT.same("nine ticks", y.lotState(0), 'w');
        y.pass(1);
        EXPECT.same("and the next", y.lotState(0), 't');
    }

    private static void beginsWhenFull() {
        WaferYard x = new WaferYard();
        Yards.route(x, Yards.step(0, 2));
        x.addTool(0, 2, 9, 50, 1, 0);
        x.start(0, 1, 0);
        x.pass(1);
        EXPECT.same("one of two", x.lotState(0), 'w');
        x.start(0, 1, 0);
        x.start(0, 1, 0);
        x.pass(1);
        EXPECT.same("two of two", x.lotState(0), 't');
        EXPECT.same("the second", x.lotState(1), 't');
        EXPECT.same("no third", x.lotState(2), 'w');
    }

    private static void tellsTheFirstReason() {
        WaferYard x = new WaferYard();
        Yards.route(x, new int[] {0, 1, 3, 0, 0}, new int[] {0, 1, 3, 0, 0}, Yards.step(3, 1));
        Yards.tool(x, 0);
        Yards.tool(x, 0);
        Yards.tool(x, 1);
        x.start(0, 1, 0);
        EXPECT.same("no tool of kind 3, but kind 0 has room", x.why(0, 0), '-');
        EXPECT.same("another kind", x.why(2, 0), 'k');
        x.setQualified(0, 0, 0, false);
        EXPECT.same("not qualified", x.why(0, 0), 'q');
        EXPECT.same("still another kind", x.why(2, 0), 'k');
        x.hold(0);
        EXPECT.same("does not wait ahead of qualified", x.why(0, 0), 'w');
        EXPECT.same("does not wait ahead of kind", x.why(2, 0), 'w');
        x.askRest(2);
        EXPECT.same("needs a rest ahead of all", x.why(2, 0), 't');
        x.release(0);
        Yards.passTo(x, 4);
        EXPECT.same("in the next step", x.stepOf(0), 1);
        EXPECT.same("the gap", x.why(1, 0), 'g');
        EXPECT.same("another tool of the layer ahead of the gap", x.why(0, 0), 'd');
        x.setQualified(0, 0, 1, false);
        EXPECT.same("qualified ahead of the layer", x.why(0, 0), 'q');
        x.start(0, 1, 0);
        x.hold(0);
        x.pass(1);
        EXPECT.same("works", x.why(1, 1), 't');
        EXPECT.same("works ahead of no wait", x.why(1, 0), 't');
        WaferYard y = Yards.small();
        y.start(0, 1, 0);
        y.askRest(0);
        y.pass(1);
        EXPECT.same("rests", y.why(0, 0), 't');
    }

    private static void bindsLayers() {
        WaferYard x = new WaferYard();
        Yards.route(x, Yards.layered(0, 1, 1), Yards.layered(1, 1, 1), Yards.step(0, 1), Yards.layered(0, 1, 1),
                Yards.layered(0, 1, 2), Yards.layered(0, 1, 0));
        Yards.tool(x, 0);
        Yards.tool(x, 0);
        Yards.tool(x, 1);
        x.setQualified(0, 0, 0, false);
        x.setQualified(1, 0, 2, false);
        x.start(0, 1, 0);
        Yards.passTo(x, 4);
        EXPECT.same("the layer's tool", x.recordAt(0, 0, 't'), 1);
        EXPECT.same("of another kind, not bound", x.toolOf(0), 2);
        Yards.passTo(x, 7);
        EXPECT.same("without a layer, not bound", x.toolOf(0), 0);
        x.setQualified(1, 0, 3, false);
        Yards.passTo(x, 10);
        EXPECT.same("waits for the layer again", x.stepOf(0), 3);
        EXPECT.same("not in the tool of the step ahead", x.why(0, 0), 'd');
        EXPECT.same("not yet in the layer's tool", x.why(1, 0), 'q');
        x.setQualified(1, 0, 3, true);
        EXPECT.same("in the layer's tool", x.why(1, 0), '-');
        x.pass(1);
        EXPECT.same("there it is", x.toolOf(0), 1);
        Yards.passTo(x, 14);
        EXPECT.same("the next step", x.stepOf(0), 4);
        EXPECT.same("another layer, the first tool", x.toolOf(0), 0);
    }

    private static void bindsByKindAndLayer() {
        WaferYard x = new WaferYard();
        Yards.route(x, Yards.layered(0, 1, 0), Yards.layered(0, 1, 2), Yards.layered(0, 1, 0));
        Yards.tool(x, 0);
        Yards.tool(x, 0);
        x.setQualified(0, 0, 1, false);
        x.start(0, 1, 0);
        Yards.passTo(x, 8);
        EXPECT.same("first", x.recordAt(0, 0, 't'), 0);
        EXPECT.same("second", x.recordAt(0, 1, 't'), 1);
        EXPECT.same("back to the first", x.toolOf(0), 0);
        EXPECT.same("third step", x.stepOf(0), 2);
    }

    /** A lot is sent back behind a step of a layer, to which it stays bound. */
    private static void bindsLotsThatAreReworked() {
        WaferYard x = new WaferYard();
        Yards.route(x, Yards.step(0, 1));
        Yards.route(x, new int[] {0, 1, 0, 2, 1}, Yards.step(3, 1));
        x.setRework(1, 0, 1);
        Yards.drifting(x, 0, 7);
        Yards.tool(x, 0);
        x.setQualified(1, 0, 0, false);
        x.setQualified(1, 1, 0, false);
        x.start(0, 1, 0);
        x.start(1, 1, 0);
        Yards.passTo(x, 9);
        EXPECT.same("its tool", x.recordAt(1, 0, 't'), 0);
        x.setQualified(1, 1, 0, true);
        x.hold(0);
        x.askRest(0);
        x.pass(1);
        EXPECT.same("reworked", x.stepOf(1), 0);
        EXPECT.same("waits", x.lotState(1), 'w');
        EXPECT.same("bound to the tool that rests", x.why(1, 1), 'd');
    }

    private static void bindsEachLayerOfEachKind() {
        for (int kind = 0; kind <= 3; kind++) {
            for (int layer = -1; layer <= 2; layer++) {
                WaferYard x = new WaferYard();
                Yards.route(x, Yards.layered(kind, 1, layer), Yards.layered(kind, 1, layer));
                Yards.tool(x, kind);
                Yards.tool(x, kind);
                x.setQualified(0, 0, 0, false);
                x.start(0, 1, 0);
                x.pass(3);
                x.setQualified(0, 0, 1, false);
                x.setQualified(1, 0, 1, false);
                x.pass(1);
                x.setQualified(0, 0, 1, true);
                x.setQualified(1, 0, 1, true);
                String what = "kind " + kind + ", layer " + layer;
                EXPECT.same(what + ": the first step's tool", x.recordAt(0, 0, 't'), 1);
                EXPECT.same(what + ": another tool", x.why(0, 0), layer == -1 ? '-' : 'd');
                EXPECT.same(what + ": its tool", x.why(1, 0), '-');
            }
        }
    }

    /** All reasons but that of the kind apply to the first tool; they are taken away one by one. */
    private static void tellsTheFirstOfAllReasons() {
        WaferYard x = new WaferYard();
        Yards.route(x, new int[] {0, 1, 9, 0, 0}, new int[] {0, 1, 9, 0, 0}, Yards.step(3, 1));
        x.addTool(0, 1, 0, 50, 2, 0);
        Yards.tool(x, 0);
        x.setQualified(0, 0, 0, false);
        x.start(0, 1, 0);
        x.pass(4);
        x.setQualified(0, 0, 1, false);
        x.hold(0);
        x.askRest(0);
        EXPECT.same("needs a rest, held, not qualified, bound, no room", x.why(0, 0), 't');
        x.pass(1);
        EXPECT.same("rests", x.toolState(0), 'r');
        EXPECT.same("rests, held, not qualified, bound, no room", x.why(0, 0), 't');
        x.pass(2);
        EXPECT.same("idle", x.toolState(0), 'i');
        EXPECT.same("held, not qualified, bound, no room", x.why(0, 0), 'w');
        x.release(0);
        EXPECT.same("not qualified, bound, no room", x.why(0, 0), 'q');
        x.setQualified(0, 0, 1, true);
        EXPECT.same("bound, no room", x.why(0, 0), 'd');
        EXPECT.same("no room", x.why(1, 0), 'g');
        x.setQualified(1, 0, 1, false);
        EXPECT.same("not qualified, no room", x.why(1, 0), 'q');
        x.setQualified(1, 0, 1, true);
        x.hold(0);
        EXPECT.same("held, no room", x.why(1, 0), 'w');
        x.release(0);
        Yards.tool(x, 3);
        EXPECT.same("bound", x.why(0, 0), 'd');
        EXPECT.same("nothing", x.why(1, 0), '-');
    }

    private static void tellsAnotherKindAheadOfTheGap() {
        WaferYard x = new WaferYard();
        Yards.route(x, Yards.limited(0, 1, 9), Yards.step(3, 1));
        Yards.tool(x, 0);
        Yards.tool(x, 1);
        x.start(0, 1, 0);
        EXPECT.same("no room", x.why(0, 0), 'g');
        EXPECT.same("another kind, no room", x.why(1, 0), 'k');
        x.hold(0);
        EXPECT.same("held, another kind, no room", x.why(1, 0), 'w');
        x.askRest(1);
        EXPECT.same("needs a rest, held, another kind, no room", x.why(1, 0), 't');
    }

    private static void takesUpToItsCapacity() {
        for (int capacity = 1; capacity <= 3; capacity++) {
            for (int lots = 1; lots <= 4; lots++) {
                WaferYard x = new WaferYard();
                Yards.route(x, Yards.step(0, 1));
                x.addTool(0, capacity, 9, 50, 1, 0);
                for (int i = 0; i < lots; i++) {
                    x.start(0, 1, 0);
                }
                x.pass(1);
                for (int i = 0; i < lots; i++) {
                    boolean isTaken = lots >= capacity && i < capacity;
                    EXPECT.same(capacity + " at once of " + lots + ": lot " + i, x.lotState(i), isTaken ? 't' : 'w');
                }
            }
        }
    }
}
