/** Promises 1 to 8: a new yard, its routes, tools and rule. */
public final class SetupTest {
    private static final Class<IndexOutOfBoundsException> INDEX = IndexOutOfBoundsException.class;
    private static final Class<IllegalArgumentException> ARGUMENT = IllegalArgumentException.class;
    private static final Class<IllegalStateException> STATE = IllegalStateException.class;
    private static final Class<UnsupportedOperationException> UNSUPPORTED = UnsupportedOperationException.class;
    private static final Expect EXPECT = new Expect();

    public static void main(String[] args) {
        promise1();
        promise2();
        promise3();
        promise3Order();
        promise4();
        promise5();
        promise6();
        promise7();
        promise8();
        EXPECT.end();
    }

    private static void promise1() {
        WaferYard x = new WaferYard();
        EXPECT.same("1 tick", x.tick(), 0);
        EXPECT.same("1 excursions", x.excursions(), 0);
        EXPECT.same("1 moves", x.moves(), 0);
        EXPECT.same("1 isSound", x.isSound(), true);
        EXPECT.thrown("1 no route", INDEX, () -> x.start(0, 1, 0));
        EXPECT.thrown("1 no tool", INDEX, () -> x.toolState(0));
        EXPECT.thrown("1 no lot", INDEX, () -> x.lotState(0));
        WaferYard y = new WaferYard();
        y.addRoute();
        EXPECT.thrown("1 nothing is shared", INDEX, () -> x.setRework(0, 0, 0));
    }

    private static void promise2() {
        WaferYard x = new WaferYard();
        EXPECT.same("2 first", x.addRoute(), 0);
        EXPECT.same("2 second", x.addRoute(), 1);
        EXPECT.same("2 third", x.addRoute(), 2);
        EXPECT.thrown("2 fourth", STATE, () -> x.addRoute());
        EXPECT.thrown("2 without steps", UNSUPPORTED, () -> x.start(2, 1, 0));
        EXPECT.thrown("2 none was added", INDEX, () -> x.start(3, 1, 0));
    }

    private static void promise3() {
        WaferYard x = new WaferYard();
        x.addRoute();
        x.addRoute();
        for (int i = 1; i <= 12; i++) {
            EXPECT.same("3 step " + i, x.addStep(0, i % 4, 1 + i % 9, i, i % 4 - 1, i % 2 == 0), i);
        }
        EXPECT.thrown("3 thirteenth", STATE, () -> x.addStep(0, 0, 1, 0, -1, false));
        EXPECT.same("3 other route", x.addStep(1, 0, 1, 0, -1, false), 1);
        EXPECT.thrown("3 kind -1", ARGUMENT, () -> x.addStep(1, -1, 1, 0, -1, false));
        EXPECT.thrown("3 kind 4", ARGUMENT, () -> x.addStep(1, 4, 1, 0, -1, false));
        EXPECT.thrown("3 ticks 0", ARGUMENT, () -> x.addStep(1, 0, 0, 0, -1, false));
        EXPECT.thrown("3 ticks 10", ARGUMENT, () -> x.addStep(1, 0, 10, 0, -1, false));
        EXPECT.thrown("3 limit -1", ARGUMENT, () -> x.addStep(1, 0, 1, -1, -1, false));
        EXPECT.thrown("3 limit 31", ARGUMENT, () -> x.addStep(1, 0, 1, 31, -1, false));
        EXPECT.thrown("3 layer -2", ARGUMENT, () -> x.addStep(1, 0, 1, 0, -2, false));
        EXPECT.thrown("3 layer 3", ARGUMENT, () -> x.addStep(1, 0, 1, 0, 3, false));
        EXPECT.thrown("3 route -1", INDEX, () -> x.addStep(-1, 0, 1, 0, -1, false));
        EXPECT.thrown("3 route 2", INDEX, () -> x.addStep(2, 0, 1, 0, -1, false));
        EXPECT.same("3 least", x.addStep(1, 0, 1, 0, -1, false), 2);
        EXPECT.same("3 most", x.addStep(1, 3, 9, 30, 2, true), 3);
    }

    private static void promise3Order() {
        WaferYard x = Yards.bare();
        EXPECT.thrown("3 route ahead of range", INDEX, () -> x.addStep(7, 9, 9, 99, 9, false));
        x.start(0, 1, 0);
        EXPECT.thrown("3 started", STATE, () -> x.addStep(0, 0, 1, 0, -1, false));
        EXPECT.thrown("3 range ahead of started", ARGUMENT, () -> x.addStep(0, 0, 0, 0, -1, false));
        EXPECT.thrown("3 nothing was added", INDEX, () -> x.setRework(0, 2, 0));
    }

    private static void promise4() {
        WaferYard x = Yards.bare();
        EXPECT.same("4 none at first", x.setRework(0, 1, 2), 0);
        EXPECT.same("4 before", x.setRework(0, 1, 3), 2);
        EXPECT.same("4 other step", x.setRework(0, 0, 1), 0);
        EXPECT.thrown("4 back 4", ARGUMENT, () -> x.setRework(0, 1, 4));
        EXPECT.thrown("4 back -1", ARGUMENT, () -> x.setRework(0, 1, -1));
        EXPECT.same("4 unchanged", x.setRework(0, 1, 0), 3);
        EXPECT.thrown("4 step 2", INDEX, () -> x.setRework(0, 2, 1));
        EXPECT.thrown("4 step -1", INDEX, () -> x.setRework(0, -1, 1));
        EXPECT.thrown("4 route 1", INDEX, () -> x.setRework(1, 0, 1));
        EXPECT.thrown("4 route -1", INDEX, () -> x.setRework(-1, 0, 1));
        EXPECT.thrown("4 step ahead of range", INDEX, () -> x.setRework(0, 2, 9));
        x.start(0, 1, 0);
        EXPECT.same("4 after a start", x.setRework(0, 1, 1), 0);
    }

    private static void promise5() {
        WaferYard x = new WaferYard();
        EXPECT.thrown("5 kind -1", ARGUMENT, () -> x.addTool(-1, 1, 0, 1, 1, 0));
        EXPECT.thrown("5 kind 4", ARGUMENT, () -> x.addTool(4, 1, 0, 1, 1, 0));
        EXPECT.thrown("5 capacity 0", ARGUMENT, () -> x.addTool(0, 0, 0, 1, 1, 0));
        EXPECT.thrown("5 capacity 4", ARGUMENT, () -> x.addTool(0, 4, 0, 1, 1, 0));
        EXPECT.thrown("5 patience -1", ARGUMENT, () -> x.addTool(0, 1, -1, 1, 1, 0));
        EXPECT.thrown("5 patience 10", ARGUMENT, () -> x.addTool(0, 1, 10, 1, 1, 0));
        EXPECT.thrown("5 use 0", ARGUMENT, () -> x.addTool(0, 1, 0, 0, 1, 0));
        EXPECT.thrown("5 use 51", ARGUMENT, () -> x.addTool(0, 1, 0, 51, 1, 0));
        EXPECT.thrown("5 rest 0", ARGUMENT, () -> x.addTool(0, 1, 0, 1, 0, 0));
        EXPECT.thrown("5 rest 10", ARGUMENT, () -> x.addTool(0, 1, 0, 1, 10, 0));
        EXPECT.thrown("5 shift -10", ARGUMENT, () -> x.addTool(0, 1, 0, 1, 1, -10));
        EXPECT.thrown("5 shift 10", ARGUMENT, () -> x.addTool(0, 1, 0, 1, 1, 10));
        EXPECT.same("5 least", x.addTool(0, 1, 0, 1, 1, -9), 0);
        EXPECT.same("5 most", x.addTool(3, 3, 9, 50, 9, 9), 1);
        for (int i = 2; i < 6; i++) {
            EXPECT.same("5 tool " + i, x.addTool(1, 1, 0, 1, 1, 0), i);
        }
        EXPECT.thrown("5 seventh", STATE, () -> x.addTool(1, 1, 0, 1, 1, 0));
        EXPECT.thrown("5 range ahead of seventh", ARGUMENT, () -> x.addTool(1, 1, 0, 1, 1, 10));
        EXPECT.same("5 idle", x.toolState(5), 'i');
        EXPECT.same("5 drift", x.driftOf(5), 0);
        EXPECT.same("5 use so far", x.useOf(5), 0);
        EXPECT.thrown("5 setup", java.util.NoSuchElementException.class, () -> x.setupOf(5));
        EXPECT.thrown("5 none was added", INDEX, () -> x.toolState(6));
    }

    private static void promise6() {
        WaferYard x = Yards.bare();
        Yards.tool(x, 0);
        Yards.tool(x, 0);
        EXPECT.same("6 at first", x.setQualified(0, 0, 0, false), true);
        EXPECT.same("6 not now", x.setQualified(0, 0, 0, false), false);
        EXPECT.same("6 other tool", x.setQualified(1, 0, 0, true), true);
        x.start(0, 1, 0);
        EXPECT.same("6 barred", x.why(0, 0), 'q');
        EXPECT.same("6 other fits", x.why(1, 0), '-');
        EXPECT.same("6 again", x.setQualified(0, 0, 0, true), false);
        EXPECT.same("6 fits again", x.why(0, 0), '-');
        EXPECT.thrown("6 other kind", UNSUPPORTED, () -> x.setQualified(0, 0, 1, true));
        EXPECT.thrown("6 tool 2", INDEX, () -> x.setQualified(2, 0, 0, true));
        EXPECT.thrown("6 tool -1", INDEX, () -> x.setQualified(-1, 0, 0, true));
        EXPECT.thrown("6 route 1", INDEX, () -> x.setQualified(0, 1, 0, true));
        EXPECT.thrown("6 route -1", INDEX, () -> x.setQualified(0, -1, 0, true));
        EXPECT.thrown("6 step 2", INDEX, () -> x.setQualified(0, 0, 2, true));
        EXPECT.thrown("6 step -1", INDEX, () -> x.setQualified(0, 0, -1, true));
        Yards.route(x, Yards.step(0, 1));
        EXPECT.same("6 a later step", x.setQualified(0, 1, 0, false), true);
        EXPECT.same("6 the step of the other route", x.setQualified(0, 0, 0, false), true);
    }

    private static void promise7() {
        WaferYard x = new WaferYard();
        EXPECT.same("7 none", x.setRule('-', '-', '-', '-'), 0);
        EXPECT.same("7 one", x.setRule('q', '-', '-', '-'), 1);
        EXPECT.same("7 two", x.setRule('w', 's', '-', '-'), 2);
        EXPECT.same("7 three", x.setRule('l', 'p', 'q', '-'), 3);
        EXPECT.same("7 four", x.setRule('p', 'l', 's', 'w'), 4);
        for (char bad : new char[] {'x', 'Q', 'o', 0, ' ', (char) 65535}) {
            EXPECT.thrown("7 a " + (int) bad, ARGUMENT, () -> x.setRule(bad, '-', '-', '-'));
            EXPECT.thrown("7 b " + (int) bad, ARGUMENT, () -> x.setRule('q', bad, '-', '-'));
            EXPECT.thrown("7 c " + (int) bad, ARGUMENT, () -> x.setRule('q', 'w', bad, '-'));
            EXPECT.thrown("7 d " + (int) bad, ARGUMENT, () -> x.setRule('q', 'w', 's', bad));
        }
        char[][] wrong = {
            {'-', 'q', '-', '-'}, {'q', '-', 'w', '-'}, {'q', 'w', '-', 's'}, {'-', '-', '-', 'q'},
            {'q', '-', '-', 'w'}, {'-', '-', 'q', '-'},
            {'q', 'q', '-', '-'}, {'q', 'w', 'q', '-'}, {'q', 'w', 's', 'q'},
            {'q', 'w', 'w', '-'}, {'q', 'w', 's', 'w'}, {'q', 'w', 's', 's'}};
        for (char[] w : wrong) {
            EXPECT.thrown("7 " + new String(w), ARGUMENT, () -> x.setRule(w[0], w[1], w[2], w[3]));
        }
        keepsRuleWhenThrown();
    }

    private static void keepsRuleWhenThrown() {
        WaferYard x = Yards.small();
        x.start(0, 1, 1);
        x.start(0, 1, 5);
        x.setRule('p', '-', '-', '-');
        EXPECT.thrown("7 wrong letter", ARGUMENT, () -> x.setRule('w', 'z', '-', '-'));
        x.pass(1);
        EXPECT.same("7 the rule stayed", x.lotState(1), 't');
    }

    private static void promise8() {
        WaferYard x = Yards.small();
        EXPECT.same("8 needed none", x.askRest(0), true);
        EXPECT.same("8 needs one", x.askRest(0), false);
        EXPECT.same("8 told", x.toolState(0), 'n');
        x.pass(1);
        EXPECT.same("8 rests", x.toolState(0), 'r');
        x.pass(1);
        EXPECT.same("8 rested", x.toolState(0), 'i');
        EXPECT.same("8 needed none again", x.askRest(0), true);
        EXPECT.thrown("8 tool 1", INDEX, () -> x.askRest(1));
        EXPECT.thrown("8 tool -1", INDEX, () -> x.askRest(-1));
        restOfUseNeedsNone();
        worksOnWhenAsked();
    }

    private static void restOfUseNeedsNone() {
        WaferYard x = new WaferYard();
        Yards.route(x, Yards.step(0, 1));
        x.addTool(0, 1, 0, 1, 5, 0);
        x.start(0, 1, 0);
        x.pass(4);
        EXPECT.same("8 rests by use", x.toolState(0), 'r');
        EXPECT.same("8 asked while it rests", x.askRest(0), true);
        EXPECT.same("8 asked twice", x.askRest(0), false);
        EXPECT.same("8 still rests", x.toolState(0), 'r');
        x.pass(5);
        EXPECT.same("8 needs none after", x.toolState(0), 'i');
    }

    private static void worksOnWhenAsked() {
        WaferYard x = Yards.small();
        x.start(0, 1, 0);
        x.pass(1);
        EXPECT.same("8 works", x.toolState(0), 'p');
        x.askRest(0);
        EXPECT.same("8 works and needs", x.toolState(0), 'n');
        x.pass(3);
        EXPECT.same("8 works on", x.lotState(0), 't');
        x.pass(1);
        EXPECT.same("8 ended", x.lotState(0), 'd');
        EXPECT.same("8 rests then", x.toolState(0), 'r');
    }
}
