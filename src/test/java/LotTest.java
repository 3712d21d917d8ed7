import java.util.NoSuchElementException;

/** Promises 9 to 15: lots are started, split, merged, scrapped, held and released; ticks go. */
public final class LotTest {
    private static final Class<IndexOutOfBoundsException> INDEX = IndexOutOfBoundsException.class;
    private static final Class<IllegalArgumentException> ARGUMENT = IllegalArgumentException.class;
    private static final Class<IllegalStateException> STATE = IllegalStateException.class;
    private static final Class<UnsupportedOperationException> UNSUPPORTED = UnsupportedOperationException.class;
    private static final Class<NoSuchElementException> NONE = NoSuchElementException.class;
    private static final Expect EXPECT = new Expect();

    public static void main(String[] args) {
        promise9();
        promise9Order();
        promise10();
        promise10Likeness();
        promise10Rework();
        promise11();
        promise11Keeps();
        promise11Limits();
        promise11Rework();
        promise11Layers();
        promise12();
        promise13();
        promise14();
        promise14Limit();
        promise15();
        EXPECT.end();
    }

    private static void promise9() {
        WaferYard x = Yards.bare();
        x.pass(3);
        EXPECT.same("9 first", x.start(0, 25, 9), 0);
        EXPECT.same("9 second", x.start(0, 1, 0), 1);
        EXPECT.same("9 waits", x.lotState(0), 'w');
        EXPECT.same("9 step", x.stepOf(0), 0);
        EXPECT.same("9 wafers", x.wafers(0), 25);
        EXPECT.same("9 parent", x.parentOf(0), -1);
        EXPECT.same("9 records", x.records(0), 0);
        EXPECT.thrown("9 limit", NONE, () -> x.limitOf(0));
        EXPECT.thrown("9 wafers 0", ARGUMENT, () -> x.start(0, 0, 0));
        EXPECT.thrown("9 wafers 26", ARGUMENT, () -> x.start(0, 26, 0));
        EXPECT.thrown("9 priority -1", ARGUMENT, () -> x.start(0, 1, -1));
        EXPECT.thrown("9 priority 10", ARGUMENT, () -> x.start(0, 1, 10));
        EXPECT.thrown("9 route 1", INDEX, () -> x.start(1, 1, 0));
        EXPECT.thrown("9 route -1", INDEX, () -> x.start(-1, 1, 0));
        for (int i = 2; i < 16; i++) {
            EXPECT.same("9 lot " + i, x.start(0, 1, 0), i);
        }
        EXPECT.thrown("9 seventeenth", STATE, () -> x.start(0, 1, 0));
        EXPECT.thrown("9 none was added", INDEX, () -> x.lotState(16));
    }

    private static void promise9Order() {
        WaferYard x = Yards.bare();
        x.addRoute();
        EXPECT.thrown("9 no steps", UNSUPPORTED, () -> x.start(1, 1, 0));
        EXPECT.thrown("9 range ahead of no steps", ARGUMENT, () -> x.start(1, 0, 0));
        EXPECT.thrown("9 route ahead of range", INDEX, () -> x.start(2, 0, 0));
        for (int i = 0; i < 16; i++) {
            x.start(0, 1, 0);
        }
        EXPECT.thrown("9 no steps ahead of full", UNSUPPORTED, () -> x.start(1, 1, 0));
        EXPECT.same("9 no lot on it", x.addStep(1, 0, 1, 0, -1, false), 1);
        EXPECT.thrown("9 there were 16 lots", STATE, () -> x.start(1, 1, 0));
        EXPECT.same("9 still no lot on it", x.addStep(1, 0, 1, 0, -1, false), 2);
    }

    private static void promise10() {
        WaferYard x = Yards.bare();
        x.start(0, 10, 4);
        EXPECT.same("10 first part", x.split(0, 3), 1);
        EXPECT.same("10 left", x.wafers(0), 7);
        EXPECT.same("10 gone", x.wafers(1), 3);
        EXPECT.same("10 parent", x.parentOf(1), 0);
        EXPECT.same("10 no parent", x.parentOf(0), -1);
        EXPECT.same("10 part of a part", x.split(1, 2), 2);
        EXPECT.same("10 its parent", x.parentOf(2), 1);
        EXPECT.thrown("10 zero", ARGUMENT, () -> x.split(0, 0));
        EXPECT.thrown("10 negative", ARGUMENT, () -> x.split(0, Integer.MIN_VALUE));
        EXPECT.thrown("10 all", ARGUMENT, () -> x.split(0, 7));
        EXPECT.thrown("10 more", ARGUMENT, () -> x.split(0, Integer.MAX_VALUE));
        EXPECT.thrown("10 lot 3", INDEX, () -> x.split(3, 1));
        EXPECT.thrown("10 lot -1", INDEX, () -> x.split(-1, 1));
        EXPECT.same("10 all but one", x.split(0, 6), 3);
        EXPECT.same("10 one left", x.wafers(0), 1);
        Yards.tool(x, 0);
        x.pass(1);
        EXPECT.same("10 in the tool", x.lotState(0), 't');
        EXPECT.thrown("10 one wafer ahead of in a tool", ARGUMENT, () -> x.split(0, 1));
        WaferYard y = Yards.small();
        y.start(0, 9, 0);
        y.pass(1);
        EXPECT.thrown("10 in a tool", UNSUPPORTED, () -> y.split(0, 1));
        y.pass(9);
        EXPECT.thrown("10 done", UNSUPPORTED, () -> y.split(0, 1));
        WaferYard z = Yards.small();
        z.start(0, 25, 0);
        for (int i = 1; i < 16; i++) {
            z.split(0, 1);
        }
        EXPECT.thrown("10 seventeenth", STATE, () -> z.split(0, 1));
        EXPECT.same("10 nothing went", z.wafers(0), 10);
        z.pass(1);
        EXPECT.thrown("10 in a tool ahead of seventeenth", UNSUPPORTED, () -> z.split(0, 1));
    }

    /** A lot with a layer, a limit, a record and a wait is split while it is held. */
    private static void promise10Likeness() {
        WaferYard x = new WaferYard();
        Yards.route(x, new int[] {0, 1, 20, 1, 0}, Yards.layered(0, 1, 1), Yards.step(1, 1));
        x.addTool(0, 2, 5, 50, 9, 2);
        x.addTool(0, 1, 9, 50, 9, 0);
        x.setQualified(1, 0, 0, false);
        x.start(0, 8, 3);
        Yards.passTo(x, 9);
        EXPECT.same("10 waits with a limit", x.limitOf(0), 28);
        x.hold(0);
        EXPECT.same("10 split when held", x.split(0, 2), 1);
        EXPECT.same("10 held too", x.lotState(1), 'h');
        EXPECT.same("10 cause", x.causeOf(1), 'o');
        EXPECT.same("10 step", x.stepOf(1), 1);
        EXPECT.same("10 limit", x.limitOf(1), 28);
        EXPECT.same("10 record", x.records(1), 1);
        EXPECT.same("10 record's end", x.recordAt(1, 0, 'e'), 8);
        EXPECT.same("10 record's begin", x.recordAt(1, 0, 'b'), 5);
        x.release(1);
        EXPECT.same("10 its tool of the layer", x.why(1, 1), 'd');
        EXPECT.same("10 the tool", x.why(0, 1), '-');
        EXPECT.same("10 the whole stays held", x.lotState(0), 'h');
        waitsAsLong();
    }

    private static void waitsAsLong() {
        WaferYard x = new WaferYard();
        Yards.route(x, Yards.step(0, 1));
        x.addTool(0, 3, 4, 50, 1, 0);
        x.pass(2);
        x.start(0, 8, 0);
        x.pass(3);
        x.split(0, 1);
        x.hold(0);
        x.pass(1);
        EXPECT.same("10 not before its patience", x.lotState(1), 'w');
        x.pass(1);
        EXPECT.same("10 as long a wait", x.lotState(1), 't');
        Yards.passTo(x, 10);
        EXPECT.same("10 done at 9", x.lotState(1), 'd');
        EXPECT.sameReal("10 the start of the whole", x.meanTime(), 7.0);
        hasItsPriority();
        hasItsDeviations();
        hasItsWholeRecord();
        isAsSoundAsTheWhole();
    }

    private static void hasItsPriority() {
        WaferYard x = Yards.small();
        x.setRule('p', '-', '-', '-');
        x.start(0, 1, 5);
        x.start(0, 2, 6);
        x.split(1, 1);
        x.hold(1);
        x.pass(1);
        EXPECT.same("10 its priority", x.lotState(2), 't');
    }

    private static void hasItsDeviations() {
        WaferYard x = Yards.aheadOfMeasure(3, 2, 0);
        x.split(3, 1);
        EXPECT.same("10 its deviations", x.recordAt(4, 0, 'd'), 6);
        EXPECT.same("10 its steps", x.recordAt(4, 0, 's'), 0);
        EXPECT.same("10 its tools", x.recordAt(4, 0, 't'), 0);
        Yards.tool(x, 1);
        x.pass(30);
        EXPECT.same("10 its yield", x.yieldOf(4), 94);
    }

    private static void hasItsWholeRecord() {
        WaferYard x = new WaferYard();
        Yards.route(x, Yards.step(0, 1), Yards.step(1, 2), Yards.step(2, 3), Yards.step(3, 1));
        Yards.drifting(x, 1, 3);
        Yards.drifting(x, 2, 5);
        Yards.drifting(x, 0, 7);
        x.start(0, 1, 0);
        x.start(0, 5, 0);
        x.pass(30);
        EXPECT.same("10 three rows", x.records(1), 3);
        EXPECT.same("10 part", x.split(1, 2), 2);
        EXPECT.same("10 as many rows", x.records(2), 3);
        for (int row = 0; row < 3; row++) {
            for (char what : "stbed".toCharArray()) {
                EXPECT.same("10 row " + row + " " + what, x.recordAt(2, row, what), x.recordAt(1, row, what));
            }
        }
        EXPECT.same("10 last step", x.recordAt(2, 2, 's'), 2);
        EXPECT.same("10 last tool", x.recordAt(2, 2, 't'), 1);
        EXPECT.same("10 last deviation", x.recordAt(2, 2, 'd'), 5);
        x.scrap(1, 3);
        EXPECT.same("10 it stays when the whole is scrapped", x.records(2), 3);
        x.merge(0, 2);
        EXPECT.same("10 and when it is merged", x.recordAt(2, 2, 'd'), 5);
        EXPECT.same("10 the other has its own", x.recordAt(0, 2, 'd'), 0);
    }

    /** The whole was held by its limit, began too late, and ended that step ahead of the split. */
    private static void isAsSoundAsTheWhole() {
        WaferYard x = limitedLots();
        x.start(0, 3, 0);
        x.pass(4);
        x.setQualified(1, 0, 1, false);
        x.pass(11);
        EXPECT.same("10 held by its limit", x.release(0), true);
        x.setQualified(1, 0, 1, true);
        Yards.passTo(x, 24);
        EXPECT.same("10 not begun", x.split(0, 1), 1);
        Yards.passTo(x, 40);
        EXPECT.same("10 too late", x.recordAt(0, 1, 'b') > 13, true);
        EXPECT.same("10 too late, too", x.recordAt(1, 1, 'b') > 13, true);
        EXPECT.same("10 sound, for it was held ahead of the split", x.isSound(), true);
        WaferYard y = new WaferYard();
        Yards.route(y, Yards.limited(0, 1, 2), Yards.step(1, 1), Yards.step(3, 1));
        Yards.tool(y, 0);
        Yards.tool(y, 1);
        y.start(0, 3, 0);
        y.pass(3);
        y.setQualified(1, 0, 1, false);
        y.pass(5);
        EXPECT.same("10 held by its limit of 5", y.causeOf(0), 'q');
        y.release(0);
        y.setQualified(1, 0, 1, true);
        y.pass(9);
        EXPECT.same("10 ended the step that it began too late", y.recordAt(0, 1, 'b'), 8);
        y.split(0, 1);
        EXPECT.same("10 the part has it, too", y.recordAt(1, 1, 'b'), 8);
        EXPECT.same("10 sound, for the whole was held", y.isSound(), true);
    }

    /** A part of a lot that was reworked is not reworked again, though it is far off. */
    private static void promise10Rework() {
        WaferYard x = Yards.aheadOfMeasure(9, 1, 1);
        x.setQualified(0, 1, 0, false);
        x.pass(1);
        EXPECT.same("10 reworked", x.stepOf(9), 0);
        EXPECT.same("10 split", x.split(9, 2), 10);
        x.hold(9);
        x.setQualified(0, 1, 0, true);
        Yards.passTo(x, 23);
        EXPECT.same("10 far off again", x.recordAt(10, 1, 'd'), 6);
        EXPECT.same("10 two measures", x.measures(0), 2);
        EXPECT.same("10 was reworked", x.stepOf(10), 1);
    }

    private static void promise11() {
        WaferYard x = Yards.bare();
        Yards.route(x, Yards.step(0, 2), Yards.step(1, 3));
        x.start(0, 10, 1);
        x.start(0, 15, 2);
        x.start(0, 1, 0);
        x.start(1, 1, 0);
        EXPECT.thrown("11 both the same", ARGUMENT, () -> x.merge(0, 0));
        EXPECT.thrown("11 lot 4", INDEX, () -> x.merge(4, 0));
        EXPECT.thrown("11 other 4", INDEX, () -> x.merge(0, 4));
        EXPECT.thrown("11 lot -1", INDEX, () -> x.merge(-1, 0));
        EXPECT.thrown("11 other -1", INDEX, () -> x.merge(0, -1));
        EXPECT.thrown("11 no lot ahead of the same", INDEX, () -> x.merge(4, 4));
        EXPECT.thrown("11 another route", UNSUPPORTED, () -> x.merge(2, 3));
        EXPECT.same("11 full", x.merge(0, 1), 25);
        EXPECT.same("11 merged", x.lotState(1), 'm');
        EXPECT.same("11 no wafers", x.wafers(1), 0);
        EXPECT.same("11 its step as it was", x.stepOf(1), 0);
        mergesAtALaterStep();
        EXPECT.same("11 wafers", x.wafers(0), 25);
        EXPECT.same("11 waits", x.lotState(0), 'w');
        EXPECT.thrown("11 more than 25", UNSUPPORTED, () -> x.merge(0, 2));
        EXPECT.thrown("11 the same ahead of merged", ARGUMENT, () -> x.merge(1, 1));
        EXPECT.thrown("11 a merged one", UNSUPPORTED, () -> x.merge(2, 1));
        EXPECT.thrown("11 into a merged one", UNSUPPORTED, () -> x.merge(1, 2));
        x.start(0, 1, 0);
        x.hold(2);
        EXPECT.thrown("11 into a held one", UNSUPPORTED, () -> x.merge(2, 4));
        EXPECT.thrown("11 a held one", UNSUPPORTED, () -> x.merge(4, 2));
        EXPECT.same("11 unchanged", x.wafers(4), 1);
        x.release(2);
        Yards.tool(x, 0);
        x.pass(1);
        EXPECT.thrown("11 into one in a tool", UNSUPPORTED, () -> x.merge(0, 2));
        Yards.passTo(x, 5);
        x.hold(2);
        x.release(2);
        EXPECT.same("11 one waits for the next step", x.stepOf(0), 1);
        EXPECT.thrown("11 another step", UNSUPPORTED, () -> x.merge(4, 0));
    }

    private static void mergesAtALaterStep() {
        WaferYard x = Yards.bare();
        x.addTool(0, 2, 0, 50, 1, 0);
        x.start(0, 1, 0);
        x.start(0, 1, 0);
        x.pass(9);
        EXPECT.same("11 both wait for the step 1", x.merge(0, 1), 2);
        EXPECT.same("11 its later step as it was", x.stepOf(1), 1);
    }

    private static void promise11Keeps() {
        WaferYard x = new WaferYard();
        Yards.route(x, Yards.step(0, 1));
        x.start(0, 1, 3);
        x.pass(4);
        x.start(0, 2, 7);
        x.start(0, 4, 5);
        x.hold(0);
        x.release(0);
        x.pass(2);
        EXPECT.same("11 sum", x.merge(2, 0), 5);
        EXPECT.same("11 sum of priorities' lots", x.merge(2, 1), 7);
        x.start(0, 9, 6);
        x.setRule('p', '-', '-', '-');
        x.addTool(0, 1, 0, 50, 1, 0);
        x.pass(1);
        EXPECT.same("11 the greater priority", x.lotState(2), 't');
        EXPECT.same("11 parent", x.parentOf(2), -1);
        Yards.passTo(x, 10);
        EXPECT.same("11 done", x.lotState(2), 'd');
        EXPECT.sameReal("11 the start of the first", x.meanTime(), 5.0);
        keepsLesserThings();
        takesTheEarlierWait(true);
        takesTheEarlierWait(false);
    }

    private static void keepsLesserThings() {
        WaferYard x = new WaferYard();
        Yards.route(x, Yards.step(0, 1));
        x.start(0, 1, 8);
        x.start(0, 1, 2);
        x.start(0, 1, 5);
        x.merge(0, 1);
        x.setRule('p', '-', '-', '-');
        Yards.tool(x, 0);
        x.pass(1);
        EXPECT.same("11 its own greater priority", x.lotState(0), 't');
    }

    private static void takesTheEarlierWait(boolean isFirstEarlier) {
        WaferYard x = new WaferYard();
        Yards.route(x, Yards.step(0, 1));
        x.addTool(0, 3, 5, 50, 1, 0);
        x.start(0, 1, 0);
        x.pass(3);
        x.start(0, 1, 0);
        int into = isFirstEarlier ? 0 : 1;
        x.merge(into, 1 - into);
        x.pass(2);
        EXPECT.same("11 not yet", x.lotState(into), 'w');
        x.pass(1);
        EXPECT.same("11 by the earlier wait", x.lotState(into), 't');
    }

    private static WaferYard limitedLots() {
        WaferYard x = new WaferYard();
        Yards.route(x, Yards.limited(0, 1, 10), Yards.step(1, 1));
        Yards.tool(x, 0);
        x.addTool(1, 3, 9, 50, 1, 0);
        return x;
    }

    private static void promise11Limits() {
        for (int into = 0; into < 2; into++) {
            int other = 1 - into;
            WaferYard x = limitedLots();
            x.start(0, 1, 0);
            x.start(0, 1, 0);
            x.pass(5);
            EXPECT.same("11 one limit", x.limitOf(0), 13);
            EXPECT.same("11 another limit", x.limitOf(1), 14);
            x.merge(into, other);
            EXPECT.same("11 the earlier limit", x.limitOf(into), 13);
            EXPECT.thrown("11 a merged one has none", NONE, () -> x.limitOf(other));
            EXPECT.same("11 own record", x.recordAt(into, 0, 'e'), 3 + into);
        }
        for (int into = 0; into < 2; into++) {
            WaferYard x = limitedLots();
            x.start(0, 1, 0);
            x.pass(4);
            x.hold(0);
            Yards.passTo(x, 20);
            x.release(0);
            x.pass(1);
            EXPECT.same("11 its limit was up", x.causeOf(0), 'q');
            x.start(0, 1, 0);
            x.pass(2);
            x.release(0);
            x.merge(into, 1 - into);
            EXPECT.same("11 the only limit", x.limitOf(into), 32);
        }
    }

    /** A lot that was reworked and one that was not; the first of them stays as it is. */
    private static void promise11Rework() {
        for (int into = 9; into <= 10; into++) {
            WaferYard x = Yards.aheadOfMeasure(9, 1, 1);
            x.setQualified(0, 1, 0, false);
            x.pass(1);
            EXPECT.same("11 reworked", x.stepOf(9), 0);
            x.start(1, 1, 0);
            EXPECT.same("11 both", x.merge(into, 19 - into), 6);
            x.setQualified(0, 1, 0, true);
            Yards.passTo(x, 23);
            int row = x.records(into) - 1;
            EXPECT.same("11 far off", x.recordAt(into, row, 'd'), 6);
            EXPECT.same("11 two measures", x.measures(0), 2);
            EXPECT.same("11 reworked unless it was, lot " + into, x.stepOf(into), into == 9 ? 1 : 0);
        }
    }

    /** Both lots are bound, each to another tool. */
    private static void promise11Layers() {
        for (int into = 0; into < 2; into++) {
            WaferYard x = new WaferYard();
            Yards.route(x, Yards.layered(0, 1, 2), Yards.layered(0, 1, 2));
            x.addTool(0, 1, 0, 1, 9, 0);
            x.addTool(0, 1, 0, 1, 9, 0);
            x.start(0, 1, 0);
            x.start(0, 1, 0);
            Yards.passTo(x, 4);
            x.merge(into, 1 - into);
            x.setQualified(0, 0, 1, false);
            x.setQualified(1, 0, 1, false);
            Yards.passTo(x, 13);
            x.setQualified(0, 0, 1, true);
            x.setQualified(1, 0, 1, true);
            EXPECT.same("11 its own tool", x.why(into, into), '-');
            EXPECT.same("11 not that of the other", x.why(1 - into, into), 'd');
        }
    }

    private static void promise12() {
        WaferYard x = Yards.bare();
        x.start(0, 10, 0);
        x.start(0, 3, 0);
        EXPECT.same("12 some", x.scrap(0, 4), 6);
        EXPECT.same("12 left", x.wafers(0), 6);
        EXPECT.same("12 still waits", x.lotState(0), 'w');
        EXPECT.thrown("12 not so many", ARGUMENT, () -> x.scrap(0, 7));
        EXPECT.thrown("12 none", ARGUMENT, () -> x.scrap(0, 0));
        EXPECT.thrown("12 negative", ARGUMENT, () -> x.scrap(0, -1));
        EXPECT.thrown("12 lot 2", INDEX, () -> x.scrap(2, 1));
        EXPECT.thrown("12 lot -1", INDEX, () -> x.scrap(-1, 1));
        x.hold(1);
        EXPECT.same("12 a held one", x.scrap(1, 1), 2);
        EXPECT.same("12 still held", x.lotState(1), 'h');
        EXPECT.same("12 all of it", x.scrap(1, 2), 0);
        EXPECT.same("12 scrapped", x.lotState(1), 'x');
        EXPECT.same("12 no wafers", x.wafers(1), 0);
        EXPECT.same("12 step as it was", x.stepOf(1), 0);
        EXPECT.thrown("12 no cause", NONE, () -> x.causeOf(1));
        EXPECT.thrown("12 nothing left", ARGUMENT, () -> x.scrap(1, 1));
        EXPECT.same("12 not released", x.release(1), false);
        Yards.tool(x, 0);
        x.pass(1);
        EXPECT.thrown("12 in a tool", UNSUPPORTED, () -> x.scrap(0, 1));
        EXPECT.thrown("12 not so many ahead of in a tool", ARGUMENT, () -> x.scrap(0, 7));
        Yards.passTo(x, 6);
        EXPECT.same("12 waits for the next", x.scrap(0, 6), 0);
        EXPECT.same("12 next step as it was", x.stepOf(0), 1);
        EXPECT.same("12 moves stay", x.moves(), 6);
    }

    private static void promise13() {
        WaferYard x = Yards.small();
        x.start(0, 1, 0);
        x.start(0, 1, 0);
        EXPECT.same("13 waited", x.hold(0), true);
        EXPECT.same("13 held", x.lotState(0), 'h');
        EXPECT.same("13 by a call", x.causeOf(0), 'o');
        EXPECT.same("13 held already", x.hold(0), false);
        EXPECT.thrown("13 lot 2", INDEX, () -> x.hold(2));
        EXPECT.thrown("13 lot -1", INDEX, () -> x.hold(-1));
        x.pass(1);
        EXPECT.same("13 is not taken", x.lotState(0), 'h');
        EXPECT.same("13 the other is", x.lotState(1), 't');
        EXPECT.same("13 in a tool", x.hold(1), false);
        EXPECT.same("13 works on", x.lotState(1), 't');
        x.pass(9);
        EXPECT.same("13 done", x.hold(1), false);
        EXPECT.same("13 stays done", x.lotState(1), 'd');
        WaferYard y = Yards.aheadOfMeasure(11, 1, 0);
        y.pass(1);
        EXPECT.same("13 held by an excursion", y.hold(11), false);
        EXPECT.same("13 its cause stays", y.causeOf(11), 'e');
    }

    private static void promise14() {
        WaferYard x = new WaferYard();
        Yards.route(x, Yards.step(0, 1));
        x.addTool(0, 2, 3, 50, 1, 0);
        x.start(0, 1, 0);
        EXPECT.same("14 waits", x.release(0), false);
        x.pass(2);
        x.hold(0);
        x.pass(3);
        EXPECT.same("14 was held", x.release(0), true);
        EXPECT.same("14 waits again", x.lotState(0), 'w');
        EXPECT.thrown("14 no cause", NONE, () -> x.causeOf(0));
        x.pass(3);
        EXPECT.same("14 from that tick on", x.lotState(0), 'w');
        x.pass(1);
        EXPECT.same("14 its patience", x.lotState(0), 't');
        EXPECT.same("14 in a tool", x.release(0), false);
        x.pass(5);
        EXPECT.same("14 done", x.release(0), false);
        EXPECT.same("14 stays done", x.lotState(0), 'd');
        EXPECT.thrown("14 lot 1", INDEX, () -> x.release(1));
        EXPECT.thrown("14 lot -1", INDEX, () -> x.release(-1));
    }

    private static void promise14Limit() {
        WaferYard x = limitedLots();
        x.start(0, 1, 0);
        x.pass(4);
        x.hold(0);
        EXPECT.same("14 held with a limit", x.limitOf(0), 13);
        x.pass(1);
        x.release(0);
        EXPECT.same("14 the limit that it has", x.limitOf(0), 13);
        x.hold(0);
        Yards.passTo(x, 15);
        EXPECT.same("14 still its limit", x.limitOf(0), 13);
        EXPECT.same("14 still by a call", x.causeOf(0), 'o');
        x.release(0);
        EXPECT.same("14 waits too late", x.lotState(0), 'w');
        x.pass(1);
        EXPECT.same("14 held by its limit", x.causeOf(0), 'q');
        EXPECT.thrown("14 no limit then", NONE, () -> x.limitOf(0));
        x.release(0);
        Yards.passTo(x, 40);
        EXPECT.same("14 then it goes on", x.lotState(0), 'd');
        EXPECT.same("14 sound, for it was held", x.isSound(), true);
    }

    private static void promise15() {
        WaferYard x = new WaferYard();
        EXPECT.same("15 one", x.pass(1), 1);
        EXPECT.same("15 fifty", x.pass(50), 51);
        for (int bad : new int[] {0, -1, 51, Integer.MIN_VALUE, Integer.MAX_VALUE}) {
            EXPECT.thrown("15 pass " + bad, ARGUMENT, () -> x.pass(bad));
        }
        EXPECT.same("15 unchanged", x.tick(), 51);
        Yards.passTo(x, 4999);
        EXPECT.thrown("15 above 5000", STATE, () -> x.pass(2));
        EXPECT.same("15 still 4999", x.tick(), 4999);
        EXPECT.same("15 to 5000", x.pass(1), 5000);
        EXPECT.thrown("15 no more", STATE, () -> x.pass(1));
        EXPECT.thrown("15 range ahead of 5000", ARGUMENT, () -> x.pass(0));
        EXPECT.thrown("15 much range ahead of 5000", ARGUMENT, () -> x.pass(51));
        EXPECT.same("15 the tick", x.tick(), 5000);
    }
}
