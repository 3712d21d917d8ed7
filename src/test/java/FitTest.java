/** The part "Terms": what fits a tool, what it takes at once, and the rule (promises 7, 15 and 32). */
public final class FitTest {
    private static final Expect EXPECT = new Expect();

    public static void main(String[] args) {
        takesOneStepOfOneRoute();
        waitsForItsPatience();
        beginsWhenFull();
        tellsTheFirstReason();
        bindsLayers();
        bindsByKindAndLayer();
        bindsLotsThatAreReworked();
        keepsRoomInTheGap();
        countsLotsThatWait();
        takesNoMoreThanThereIsRoom();
        countsRoom();
        hasNoGap();
        countsALotOnce();
        countsLotsOfOtherRoutes();
        ranksByNumber();
        ranksByPriority();
        ranksByWait();
        ranksByTicksLeft();
        ranksBySetup();
        ranksByLimit();
        ranksByTheNextLetter();
        EXPECT.end();
    }

    private static void takesOneStepOfOneRoute() {
        WaferYard x = new WaferYard();
        Yards.route(x, Yards.step(0, 2), Yards.step(0, 1));
        Yards.route(x, Yards.step(0, 2));
        x.addTool(0, 3, 0, 50, 1, 0);
        x.start(0, 1, 0);
        x.start(1, 1, 0);
        x.start(0, 1, 0);
        x.pass(1);
        EXPECT.same("the first", x.lotState(0), 't');
        EXPECT.same("another route's waits", x.lotState(1), 'w');
        EXPECT.same("the same step's", x.lotState(2), 't');
        x.start(0, 1, 0);
        x.setRule('l', '-', '-', '-');
        x.pass(3);
        x.hold(1);
        x.pass(1);
        EXPECT.same("the next step", x.toolOf(0), 0);
        EXPECT.same("the next step too", x.stepOf(2), 1);
        EXPECT.same("another step waits", x.lotState(3), 'w');
    }

    private static void waitsForItsPatience() {
        WaferYard x = new WaferYard();
        Yards.route(x, Yards.step(0, 2));
        x.addTool(0, 3, 3, 50, 1, 0);
        x.start(0, 1, 0);
        x.pass(2);
        x.start(0, 1, 0);
        x.pass(1);
        EXPECT.same("not yet", x.lotState(0), 'w');
        EXPECT.same("idle", x.toolState(0), 'i');
        x.pass(1);
        EXPECT.same("waited for its patience", x.lotState(0), 't');
        EXPECT.same("the other goes with it", x.lotState(1), 't');
        EXPECT.same("at 3", x.toolState(0), 'p');
        WaferYard y = new WaferYard();
        Yards.route(y, Yards.step(0, 2));
        y.addTool(0, 2, 9, 50, 1, 0);
        y.start(0, 1, 0);
        y.pass(9);
        EXPECT.same("nine ticks", y.lotState(0), 'w');
        y.pass(1);
        EXPECT.same("and the next", y.lotState(0), 't');
    }

    private static void beginsWhenFull() {
        WaferYard x = new WaferYard();
        Yards.route(x, Yards.step(0, 2));
        x.addTool(0, 2, 9, 50, 1, 0);
        x.start(0, 1, 0);
        x.pass(1);
        EXPECT.same("one of two", x.lotState(0), 'w');
        x.start(0, 1, 0);
        x.start(0, 1, 0);
        x.pass(1);
        EXPECT.same("two of two", x.lotState(0), 't');
        EXPECT.same("the second", x.lotState(1), 't');
        EXPECT.same("no third", x.lotState(2), 'w');
    }

    private static void tellsTheFirstReason() {
        WaferYard x = new WaferYard();
        Yards.route(x, new int[] {0, 1, 3, 0, 0}, new int[] {0, 1, 3, 0, 0}, Yards.step(3, 1));
        Yards.tool(x, 0);
        Yards.tool(x, 0);
        Yards.tool(x, 1);
        x.start(0, 1, 0);
        EXPECT.same("no tool of kind 3, but kind 0 has room", x.why(0, 0), '-');
        EXPECT.same("another kind", x.why(2, 0), 'k');
        x.setQualified(0, 0, 0, false);
        EXPECT.same("not qualified", x.why(0, 0), 'q');
        EXPECT.same("still another kind", x.why(2, 0), 'k');
        x.hold(0);
        EXPECT.same("does not wait ahead of qualified", x.why(0, 0), 'w');
        EXPECT.same("does not wait ahead of kind", x.why(2, 0), 'w');
        x.askRest(2);
        EXPECT.same("needs a rest ahead of all", x.why(2, 0), 't');
        x.release(0);
        Yards.passTo(x, 4);
        EXPECT.same("in the next step", x.stepOf(0), 1);
        EXPECT.same("the gap", x.why(1, 0), 'g');
        EXPECT.same("another tool of the layer ahead of the gap", x.why(0, 0), 'd');
        x.setQualified(0, 0, 1, false);
        EXPECT.same("qualified ahead of the layer", x.why(0, 0), 'q');
        x.start(0, 1, 0);
        x.hold(0);
        x.pass(1);
        EXPECT.same("works", x.why(1, 1), 't');
        EXPECT.same("works ahead of no wait", x.why(1, 0), 't');
        WaferYard y = Yards.small();
        y.start(0, 1, 0);
        y.askRest(0);
        y.pass(1);
        EXPECT.same("rests", y.why(0, 0), 't');
    }

    private static void bindsLayers() {
        WaferYard x = new WaferYard();
        Yards.route(x, Yards.layered(0, 1, 1), Yards.layered(1, 1, 1), Yards.step(0, 1), Yards.layered(0, 1, 1),
                Yards.layered(0, 1, 2), Yards.layered(0, 1, 0));
        Yards.tool(x, 0);
        Yards.tool(x, 0);
        Yards.tool(x, 1);
        x.setQualified(0, 0, 0, false);
        x.setQualified(1, 0, 2, false);
        x.start(0, 1, 0);
        Yards.passTo(x, 4);
        EXPECT.same("the layer's tool", x.recordAt(0, 0, 't'), 1);
        EXPECT.same("of another kind, not bound", x.toolOf(0), 2);
        Yards.passTo(x, 7);
        EXPECT.same("without a layer, not bound", x.toolOf(0), 0);
        x.setQualified(1, 0, 3, false);
        Yards.passTo(x, 10);
        EXPECT.same("waits for the layer again", x.stepOf(0), 3);
        EXPECT.same("not in the tool of the step ahead", x.why(0, 0), 'd');
        EXPECT.same("not yet in the layer's tool", x.why(1, 0), 'q');
        x.setQualified(1, 0, 3, true);
        EXPECT.same("in the layer's tool", x.why(1, 0), '-');
        x.pass(1);
        EXPECT.same("there it is", x.toolOf(0), 1);
        Yards.passTo(x, 14);
        EXPECT.same("the next step", x.stepOf(0), 4);
        EXPECT.same("another layer, the first tool", x.toolOf(0), 0);
    }

    private static void bindsByKindAndLayer() {
        WaferYard x = new WaferYard();
        Yards.route(x, Yards.layered(0, 1, 0), Yards.layered(0, 1, 2), Yards.layered(0, 1, 0));
        Yards.tool(x, 0);
        Yards.tool(x, 0);
        x.setQualified(0, 0, 1, false);
        x.start(0, 1, 0);
        Yards.passTo(x, 8);
        EXPECT.same("first", x.recordAt(0, 0, 't'), 0);
        EXPECT.same("second", x.recordAt(0, 1, 't'), 1);
        EXPECT.same("back to the first", x.toolOf(0), 0);
        EXPECT.same("third step", x.stepOf(0), 2);
    }

    /** A lot is sent back behind a step of a layer, to which it stays bound. */
    private static void bindsLotsThatAreReworked() {
        WaferYard x = new WaferYard();
        Yards.route(x, Yards.step(0, 1));
        Yards.route(x, new int[] {0, 1, 0, 2, 1}, Yards.step(3, 1));
        x.setRework(1, 0, 1);
        Yards.drifting(x, 0, 7);
        Yards.tool(x, 0);
        x.setQualified(1, 0, 0, false);
        x.setQualified(1, 1, 0, false);
        x.start(0, 1, 0);
        x.start(1, 1, 0);
        Yards.passTo(x, 9);
        EXPECT.same("its tool", x.recordAt(1, 0, 't'), 0);
        x.setQualified(1, 1, 0, true);
        x.hold(0);
        x.askRest(0);
        x.pass(1);
        EXPECT.same("reworked", x.stepOf(1), 0);
        EXPECT.same("waits", x.lotState(1), 'w');
        EXPECT.same("bound to the tool that rests", x.why(1, 1), 'd');
    }

    private static WaferYard gapYard(int capacity) {
        WaferYard x = new WaferYard();
        Yards.route(x, Yards.limited(0, 1, 9), Yards.step(1, 2));
        Yards.tool(x, 0);
        Yards.tool(x, 0);
        x.addTool(1, capacity, 0, 50, 4, 0);
        return x;
    }

    private static void keepsRoomInTheGap() {
        WaferYard x = gapYard(1);
        x.start(0, 1, 0);
        x.start(0, 1, 0);
        EXPECT.same("there is room", x.why(1, 1), '-');
        x.pass(1);
        EXPECT.same("one began", x.toolOf(0), 0);
        EXPECT.same("no room for the other", x.lotState(1), 'w');
        EXPECT.same("by the gap", x.why(1, 1), 'g');
        x.askRest(2);
        Yards.passTo(x, 4);
        EXPECT.same("waits with a limit", x.limitOf(0), 12);
        EXPECT.same("in the gap", x.why(1, 1), 'g');
        Yards.passTo(x, 6);
        EXPECT.same("the next tool rested up to 5", x.toolOf(0), 2);
        EXPECT.same("tools of lower numbers came ahead of it", x.lotState(1), 'w');
        EXPECT.same("now it is out of the gap", x.why(1, 1), '-');
        x.pass(1);
        EXPECT.same("the other begins", x.toolOf(1), 0);
    }

    /** The tool behind the gap is patient, so that a lot stays in the gap though there is room. */
    private static void countsLotsThatWait() {
        WaferYard x = new WaferYard();
        Yards.route(x, Yards.limited(0, 1, 9), Yards.step(1, 2));
        Yards.tool(x, 0);
        Yards.tool(x, 0);
        x.addTool(1, 2, 9, 50, 4, 0);
        x.start(0, 1, 0);
        Yards.passTo(x, 4);
        EXPECT.same("one waits with a limit", x.limitOf(0), 12);
        x.start(0, 1, 0);
        x.start(0, 1, 0);
        x.pass(1);
        EXPECT.same("one is in a tool", x.lotState(1), 't');
        EXPECT.same("room for two alone", x.why(1, 2), 'g');
        x.hold(0);
        EXPECT.same("one that is held is in no gap", x.why(1, 2), '-');
        x.release(0);
        EXPECT.same("released into the gap", x.why(1, 2), 'g');
        x.scrap(0, 1);
        EXPECT.same("one that is scrapped is in no gap", x.why(1, 2), '-');
    }

    /** A batch of fewer lots than the capacity, as there is no more room. */
    private static void takesNoMoreThanThereIsRoom() {
        WaferYard x = new WaferYard();
        Yards.route(x, Yards.limited(0, 1, 9), Yards.step(1, 2));
        x.addTool(0, 3, 0, 50, 1, 0);
        x.addTool(1, 2, 0, 50, 4, 0);
        for (int i = 0; i < 3; i++) {
            x.start(0, 1, 0);
        }
        EXPECT.same("each fits alone", x.why(0, 2), '-');
        x.pass(1);
        EXPECT.same("the first", x.lotState(0), 't');
        EXPECT.same("the second beside it", x.lotState(1), 't');
        EXPECT.same("no room for the third", x.lotState(2), 'w');
        WaferYard y = new WaferYard();
        Yards.route(y, Yards.limited(0, 1, 9), Yards.step(1, 2));
        y.addTool(0, 3, 4, 50, 1, 0);
        y.addTool(1, 2, 0, 50, 4, 0);
        for (int i = 0; i < 3; i++) {
            y.start(0, 1, 0);
        }
        y.pass(4);
        EXPECT.same("fewer than the capacity wait", y.lotState(0), 'w');
        y.pass(1);
        EXPECT.same("for its patience", y.lotState(1), 't');
        EXPECT.same("still no third", y.lotState(2), 'w');
        WaferYard z = new WaferYard();
        Yards.route(z, Yards.limited(0, 1, 9), Yards.step(1, 2));
        z.addTool(0, 2, 0, 50, 1, 0);
        Yards.tool(z, 1);
        z.start(0, 1, 0);
        z.start(0, 1, 0);
        z.pass(1);
        EXPECT.same("room for one", z.lotState(0), 't');
        EXPECT.same("and not for two", z.lotState(1), 'w');
    }

    private static void countsRoom() {
        WaferYard x = new WaferYard();
        Yards.route(x, Yards.limited(0, 1, 9), Yards.step(1, 2));
        x.addTool(0, 3, 0, 50, 1, 0);
        EXPECT.same("a lot", x.start(0, 1, 0), 0);
        EXPECT.same("no tool, no room", x.why(0, 0), 'g');
        Yards.tool(x, 2);
        EXPECT.same("none of the kind", x.why(0, 0), 'g');
        x.addTool(1, 1, 0, 1, 3, 0);
        EXPECT.same("one of the kind", x.why(0, 0), '-');
        x.setQualified(2, 0, 1, false);
        EXPECT.same("not qualified for the next step", x.why(0, 0), 'g');
        x.setQualified(2, 0, 1, true);
        x.askRest(2);
        EXPECT.same("needs a rest", x.why(0, 0), 'g');
        x.pass(1);
        EXPECT.same("rests", x.toolState(2), 'r');
        EXPECT.same("no room while it rests", x.why(0, 0), 'g');
        x.pass(2);
        EXPECT.same("still rests", x.lotState(0), 'w');
        x.pass(1);
        EXPECT.same("room when it is idle", x.lotState(0), 't');
        WaferYard y = new WaferYard();
        Yards.route(y, Yards.limited(0, 1, 9), Yards.step(1, 9));
        Yards.route(y, Yards.step(1, 9));
        y.addTool(0, 1, 0, 50, 1, 0);
        y.addTool(1, 1, 0, 50, 3, 0);
        y.start(1, 1, 0);
        y.start(0, 1, 0);
        y.pass(1);
        EXPECT.same("a tool that works is room", y.lotState(1), 't');
    }

    private static void hasNoGap() {
        WaferYard x = new WaferYard();
        Yards.route(x, Yards.step(0, 1), Yards.step(1, 1));
        Yards.route(x, Yards.limited(0, 1, 5));
        Yards.tool(x, 0);
        x.start(0, 1, 0);
        x.start(1, 1, 0);
        EXPECT.same("without a limit", x.why(0, 0), '-');
        EXPECT.same("the last step", x.why(0, 1), '-');
    }

    /** The lot itself waits with a limit for a step of the kind behind it. */
    private static void countsALotOnce() {
        WaferYard x = new WaferYard();
        Yards.route(x, Yards.limited(0, 1, 20), Yards.limited(0, 1, 20), Yards.step(0, 1));
        x.addTool(0, 1, 0, 50, 1, 0);
        x.start(0, 1, 0);
        x.pass(3);
        x.askRest(0);
        x.pass(1);
        EXPECT.same("waits with a limit", x.limitOf(0), 23);
        EXPECT.same("for the next", x.stepOf(0), 1);
        x.pass(1);
        EXPECT.same("is one alone", x.lotState(0), 't');
        EXPECT.same("at the next", x.stepOf(0), 1);
    }

    private static void countsLotsOfOtherRoutes() {
        WaferYard x = new WaferYard();
        Yards.route(x, Yards.limited(0, 5, 9), Yards.step(2, 1));
        Yards.route(x, Yards.limited(1, 5, 9), Yards.step(2, 1));
        Yards.route(x, Yards.limited(1, 5, 9), Yards.step(3, 1));
        Yards.tool(x, 0);
        Yards.tool(x, 1);
        Yards.tool(x, 2);
        Yards.tool(x, 3);
        x.start(0, 1, 0);
        x.pass(1);
        x.start(1, 1, 0);
        x.start(2, 1, 0);
        EXPECT.same("another route, the same kind behind", x.why(1, 1), 'g');
        EXPECT.same("another kind behind", x.why(1, 2), '-');
    }

    private static WaferYard twoAlike(int priority, int otherPriority) {
        WaferYard x = Yards.small();
        x.start(0, 1, priority);
        x.start(0, 1, otherPriority);
        return x;
    }

    private static void taken(String what, WaferYard x, int lot) {
        x.pass(1);
        EXPECT.same(what, x.lotState(lot), 't');
    }

    private static void ranksByNumber() {
        taken("no rule", twoAlike(0, 9), 0);
        WaferYard x = twoAlike(3, 3);
        x.setRule('p', 'w', 'l', 'q');
        taken("alike by all letters", x, 0);
        WaferYard y = twoAlike(0, 9);
        y.setRule('p', '-', '-', '-');
        y.setRule('-', '-', '-', '-');
        taken("no rule again", y, 0);
    }

    private static void ranksByPriority() {
        WaferYard x = twoAlike(8, 9);
        x.setRule('p', '-', '-', '-');
        taken("the greater priority", x, 1);
        WaferYard y = twoAlike(9, 8);
        y.setRule('p', '-', '-', '-');
        taken("the greater priority first", y, 0);
    }

    private static void ranksByWait() {
        WaferYard x = new WaferYard();
        Yards.route(x, Yards.step(0, 2));
        x.start(0, 1, 0);
        x.start(0, 1, 0);
        x.hold(0);
        x.pass(1);
        x.release(0);
        Yards.tool(x, 0);
        x.setRule('w', '-', '-', '-');
        taken("since an earlier tick", x, 1);
    }

    private static void ranksByTicksLeft() {
        WaferYard x = new WaferYard();
        Yards.route(x, Yards.step(0, 1), Yards.step(0, 5));
        Yards.route(x, Yards.step(0, 5));
        Yards.tool(x, 0);
        x.start(0, 1, 0);
        x.start(1, 1, 0);
        x.setRule('l', '-', '-', '-');
        taken("fewer ticks left, the present ones too", x, 1);
        WaferYard y = new WaferYard();
        Yards.route(y, Yards.step(1, 9), Yards.step(0, 4));
        Yards.route(y, Yards.step(0, 5));
        Yards.tool(y, 0);
        Yards.tool(y, 1);
        y.start(1, 1, 0);
        y.start(0, 1, 0);
        y.hold(0);
        Yards.passTo(y, 11);
        y.release(0);
        y.setRule('l', '-', '-', '-');
        taken("not those that it had", y, 1);
    }

    private static void ranksBySetup() {
        WaferYard x = new WaferYard();
        Yards.route(x, Yards.step(0, 1));
        Yards.route(x, Yards.step(0, 1));
        Yards.tool(x, 0);
        x.setRule('s', '-', '-', '-');
        x.start(1, 1, 0);
        x.pass(1);
        x.start(0, 1, 0);
        x.start(1, 1, 0);
        x.pass(2);
        taken("the setup's step first", x, 2);
        EXPECT.same("the other waits", x.lotState(1), 'w');
        x.pass(1);
        EXPECT.same("then the other", x.lotState(1), 't');
        EXPECT.same("with its own setup", x.setupOf(0), 0);
    }

    private static void ranksByLimit() {
        WaferYard x = new WaferYard();
        Yards.route(x, Yards.step(1, 1));
        Yards.route(x, Yards.limited(0, 1, 20), Yards.step(1, 1));
        Yards.route(x, Yards.limited(2, 1, 10), Yards.step(1, 1));
        Yards.tool(x, 0);
        x.addTool(1, 3, 0, 50, 9, 0);
        Yards.tool(x, 2);
        x.start(0, 1, 0);
        x.start(1, 1, 0);
        x.start(2, 1, 0);
        x.hold(0);
        x.pass(1);
        x.askRest(1);
        Yards.passTo(x, 4);
        x.release(0);
        EXPECT.same("a later limit", x.limitOf(1), 23);
        EXPECT.same("an earlier limit", x.limitOf(2), 13);
        x.setRule('q', '-', '-', '-');
        Yards.passTo(x, 10);
        taken("the limit that is up first", x, 2);
        Yards.passTo(x, 13);
        taken("then the other limit", x, 1);
        EXPECT.same("without one behind", x.lotState(0), 'w');
    }

    private static void ranksByTheNextLetter() {
        WaferYard x = new WaferYard();
        Yards.route(x, Yards.step(0, 2));
        Yards.route(x, Yards.step(0, 1));
        x.start(0, 1, 5);
        x.start(0, 1, 7);
        x.start(1, 1, 7);
        x.start(1, 1, 6);
        Yards.tool(x, 0);
        x.setRule('p', 'l', '-', '-');
        taken("priority, then ticks left", x, 2);
        x.setRule('l', 'p', '-', '-');
        Yards.passTo(x, 3);
        taken("ticks left, then priority", x, 3);
        x.setRule('s', 'w', 'q', 'p');
        Yards.passTo(x, 4);
        taken("the fourth letter", x, 1);
    }
}
