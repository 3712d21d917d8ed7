/** The part "Terms": the rule, by which lots are compared (promise 7). */
public final class RuleTest {
    private static final Expect EXPECT = new Expect();

    public static void main(String[] args) {
        ranksByNumber();
        ranksByPriority();
        ranksByWait();
        ranksByTicksLeft();
        ranksBySetup();
        ranksByLimit();
        ranksByTheNextLetter();
        aLetterComesAheadOfTheNext();
        lotsThatAreAlikeGoByTheNext();
        takesFurtherOnesInTheOrderOfTheRule();
        ranksByEarlierTicksAlone();
        EXPECT.end();
    }

    private static WaferYard twoAlike(int priority, int otherPriority) {
        WaferYard x = Yards.small();
        x.start(0, 1, priority);
        x.start(0, 1, otherPriority);
        return x;
    }

    private static void taken(String what, WaferYard x, int lot) {
        x.pass(1);
        EXPECT.same(what, x.lotState(lot), 't');
    }

    private static void ranksByNumber() {
        taken("no rule", twoAlike(0, 9), 0);
        WaferYard x = twoAlike(3, 3);
        x.setRule('p', 'w', 'l', 'q');
        taken("alike by all letters", x, 0);
        WaferYard y = twoAlike(0, 9);
        y.setRule('p', '-', '-', '-');
        y.setRule('-', '-', '-', '-');
        taken("no rule again", y, 0);
    }

    private static void ranksByPriority() {
        WaferYard x = twoAlike(8, 9);
        x.setRule('p', '-', '-', '-');
        taken("the greater priority", x, 1);
        WaferYard y = twoAlike(9, 8);
        y.setRule('p', '-', '-', '-');
        taken("the greater priority first", y, 0);
    }

    private static void ranksByWait() {
        WaferYard x = new WaferYard();
        Yards.route(x, Yards.step(0, 2));
        x.start(0, 1, 0);
        x.start(0, 1, 0);
        x.hold(0);
        x.pass(1);
        x.release(0);
        Yards.tool(x, 0);
        x.setRule('w', '-', '-', '-');
        taken("since an earlier tick", x, 1);
    }

    private static void ranksByTicksLeft() {
        WaferYard x = new WaferYard();
        Yards.route(x, Yards.step(0, 1), Yards.step(0, 5));
        Yards.route(x, Yards.step(0, 5));
        Yards.tool(x, 0);
        x.start(0, 1, 0);
        x.start(1, 1, 0);
        x.setRule('l', '-', '-', '-');
        taken("fewer ticks left, the present ones too", x, 1);
        WaferYard y = new WaferYard();
        Yards.route(y, Yards.step(1, 9), Yards.step(0, 4));
        Yards.route(y, Yards.step(0, 5));
        Yards.tool(y, 0);
        Yards.tool(y, 1);
        y.start(1, 1, 0);
        y.start(0, 1, 0);
        y.hold(0);
        Yards.passTo(y, 11);
        y.release(0);
        y.setRule('l', '-', '-', '-');
        taken("not those that it had", y, 1);
    }

    private static void ranksBySetup() {
        WaferYard x = new WaferYard();
        Yards.route(x, Yards.step(0, 1));
        Yards.route(x, Yards.step(0, 1));
        Yards.tool(x, 0);
        x.setRule('s', '-', '-', '-');
        x.start(1, 1, 0);
        x.pass(1);
        x.start(0, 1, 0);
        x.start(1, 1, 0);
        x.pass(2);
        taken("the setup's step first", x, 2);
        EXPECT.same("the other waits", x.lotState(1), 'w');
        x.pass(1);
        EXPECT.same("then the other", x.lotState(1), 't');
        EXPECT.same("with its own setup", x.setupOf(0), 0);
    }

    private static void ranksByLimit() {
        WaferYard x = new WaferYard();
        Yards.route(x, Yards.step(1, 1));
        Yards.route(x, Yards.limited(0, 1, 20), Yards.step(1, 1));
        Yards.route(x, Yards.limited(2, 1, 10), Yards.step(1, 1));
        Yards.tool(x, 0);
        x.addTool(1, 3, 0, 50, 9, 0);
        Yards.tool(x, 2);
        x.start(0, 1, 0);
        x.start(1, 1, 0);
        x.start(2, 1, 0);
        x.hold(0);
        x.pass(1);
        x.askRest(1);
        Yards.passTo(x, 4);
        x.release(0);
        EXPECT.same("a later limit", x.limitOf(1), 23);
        EXPECT.same("an earlier limit", x.limitOf(2), 13);
        x.setRule('q', '-', '-', '-');
        Yards.passTo(x, 10);
        taken("the limit that is up first", x, 2);
        Yards.passTo(x, 13);
        taken("then the other limit", x, 1);
        EXPECT.same("without one behind", x.lotState(0), 'w');
    }

    private static void ranksByTheNextLetter() {
        WaferYard x = new WaferYard();
        Yards.route(x, Yards.step(0, 2));
        Yards.route(x, Yards.step(0, 1));
        x.start(0, 1, 5);
        x.start(0, 1, 7);
        x.start(1, 1, 7);
        x.start(1, 1, 6);
        Yards.tool(x, 0);
        x.setRule('p', 'l', '-', '-');
        taken("priority, then ticks left", x, 2);
        x.setRule('l', 'p', '-', '-');
        Yards.passTo(x, 3);
        taken("ticks left, then priority", x, 3);
        x.setRule('s', 'w', 'q', 'p');
        Yards.passTo(x, 4);
        taken("the fourth letter", x, 1);
    }

    /** Two lots, of which the one is ahead by the letter; both wait for a tool that is idle. */
    private static WaferYard aheadBy(char letter, int ahead, int priority, int otherPriority) {
        int[] priorities = ahead == 0 ? new int[] {priority, otherPriority} : new int[] {otherPriority, priority};
        if (letter == 'q') {
            return aheadByLimit(ahead, priorities);
        }
        WaferYard x = new WaferYard();
        Yards.route(x, Yards.step(0, 1));
        Yards.route(x, Yards.step(0, letter == 'l' ? 2 : 1));
        Yards.tool(x, 0);
        for (int lot = 0; lot < 2; lot++) {
            boolean isSecondRoute = letter != 'w' && lot != ahead;
            x.start(isSecondRoute ? 1 : 0, 1, priorities[lot]);
            x.hold(lot);
        }
        x.start(0, 1, 0);
        x.pass(4);
        x.release(ahead);
        if (letter == 'w') {
            x.setQualified(0, 0, 0, false);
            x.pass(1);
            x.setQualified(0, 0, 0, true);
        }
        x.release(1 - ahead);
        return x;
    }

    /**
     * The one that is ahead ends the step ahead at 3, the other one at 4. A patient tool makes room
     * for both; the other tool of the kind is qualified for them at last.
     */
    private static WaferYard aheadByLimit(int ahead, int[] priorities) {
        WaferYard x = new WaferYard();
        Yards.route(x, Yards.limited(1, 1, 20), Yards.step(0, 1));
        Yards.tool(x, 0);
        Yards.tool(x, 1);
        x.addTool(0, 3, 9, 50, 1, 0);
        x.setQualified(0, 0, 1, false);
        x.start(0, 1, priorities[0]);
        x.start(0, 1, priorities[1]);
        x.hold(1 - ahead);
        x.pass(1);
        x.release(1 - ahead);
        Yards.passTo(x, 6);
        EXPECT.same("the earlier limit", x.limitOf(ahead), 23);
        EXPECT.same("the later limit", x.limitOf(1 - ahead), 24);
        x.setQualified(0, 0, 1, true);
        return x;
    }

    /** The priority is the other way round. */
    private static void aLetterComesAheadOfTheNext() {
        for (char letter : "qswl".toCharArray()) {
            for (int ahead = 0; ahead < 2; ahead++) {
                WaferYard x = aheadBy(letter, ahead, 3, 4);
                x.setRule(letter, 'p', '-', '-');
                x.pass(1);
                EXPECT.same(letter + " ahead of p: " + ahead, x.lotState(ahead), 't');
                EXPECT.same(letter + " ahead of p: not the other", x.lotState(1 - ahead), 'w');
                WaferYard y = aheadBy(letter, ahead, 3, 4);
                y.setRule('p', letter, '-', '-');
                y.pass(1);
                EXPECT.same("p ahead of " + letter + ": the other", y.lotState(1 - ahead), 't');
                EXPECT.same("p ahead of " + letter + ": not " + ahead, y.lotState(ahead), 'w');
                WaferYard z = aheadBy(letter, ahead, 4, 4);
                z.setRule('p', letter, '-', '-');
                z.pass(1);
                EXPECT.same("p alike, then " + letter + ": " + ahead, z.lotState(ahead), 't');
            }
        }
    }

    /** Alike by each letter; then the priority decides, then the number. */
    private static void lotsThatAreAlikeGoByTheNext() {
        for (char letter : "qswl".toCharArray()) {
            WaferYard x = twoAlike(3, 4);
            x.setRule(letter, 'p', '-', '-');
            taken("alike by " + letter + ", then by p", x, 1);
            WaferYard y = twoAlike(4, 4);
            y.setRule(letter, 'p', '-', '-');
            taken("alike by " + letter + " and p, then by numbers", y, 0);
            WaferYard z = twoAlike(3, 4);
            z.setRule(letter, '-', '-', '-');
            taken("alike by " + letter + ", then by numbers", z, 0);
        }
        for (int best = 0; best < 10; best++) {
            WaferYard x = twoAlike(best, best + 1 > 9 ? 0 : best + 1);
            x.setRule('p', '-', '-', '-');
            taken("each priority, " + best, x, best == 9 ? 0 : 1);
        }
    }

    private static void takesFurtherOnesInTheOrderOfTheRule() {
        WaferYard x = new WaferYard();
        Yards.route(x, Yards.step(0, 1));
        x.addTool(0, 2, 0, 50, 1, 0);
        x.setRule('p', '-', '-', '-');
        x.start(0, 1, 1);
        x.start(0, 1, 5);
        x.start(0, 1, 3);
        x.start(0, 1, 9);
        x.pass(1);
        EXPECT.same("the first", x.lotState(3), 't');
        EXPECT.same("the second by the rule", x.lotState(1), 't');
        EXPECT.same("not the third", x.lotState(2), 'w');
        EXPECT.same("not the lowest number", x.lotState(0), 'w');
    }

    /** Held and released in the tick in which it came, a lot waits as long as before. */
    private static void ranksByEarlierTicksAlone() {
        for (int later = 0; later <= 1; later++) {
            WaferYard x = new WaferYard();
            Yards.route(x, Yards.step(0, 2));
            x.start(0, 1, 0);
            x.start(0, 1, 0);
            x.hold(0);
            if (later == 1) {
                x.pass(1);
            }
            x.release(0);
            Yards.tool(x, 0);
            x.setRule('w', '-', '-', '-');
            taken("since the same tick, or one later: " + later, x, later);
        }
    }
}
