/** All places taken: routes, steps, tools, lots and rows of records, and the last values of all ranges at work. */
public final class FullTest {
    private static final Class<IndexOutOfBoundsException> INDEX = IndexOutOfBoundsException.class;
    private static final Class<IllegalStateException> STATE = IllegalStateException.class;
    private static final Expect EXPECT = new Expect();

    public static void main(String[] args) {
        worksWithAllPlacesTaken();
        keepsTheLongestRecord();
        measuresEachBatchOfAll();
        holdsAllLotsByOneExcursion();
        findsNoMoreRoomForTheLastLot();
        splitsIntoAllLots();
        splitsAndMergesBySingleWafers();
        takesTheLastValuesOfARoute();
        asksTheLastStepOfTheLastRoute();
        qualifiesForStepsThatComeLater();
        worksUpToTheLastTick();
        EXPECT.end();
    }

    /** 3 routes of 12 steps, 6 tools and 16 lots; each lot goes all its way. */
    private static void worksWithAllPlacesTaken() {
        WaferYard x = new WaferYard();
        for (int route = 0; route < 3; route++) {
            x.addRoute();
            for (int step = 0; step < 12; step++) {
                x.addStep(route, (route + step) % 4, 1, 0, -1, step % 5 == 0);
            }
        }
        for (int tool = 0; tool < 6; tool++) {
            x.addTool(tool % 4, 3, 0, 50, 1, 0);
        }
        int wafers = 0;
        for (int lot = 0; lot < 16; lot++) {
            x.start(lot % 3, 10 + lot, lot % 10);
            wafers += 10 + lot;
        }
        EXPECT.thrown("a fourth route", STATE, () -> x.addRoute());
        EXPECT.thrown("a thirteenth step", STATE, () -> x.addStep(2, 0, 1, 0, -1, false));
        EXPECT.thrown("a seventh tool", STATE, () -> x.addTool(0, 1, 0, 1, 1, 0));
        EXPECT.thrown("a seventeenth lot", STATE, () -> x.start(0, 1, 0));
        Yards.passTo(x, 1000);
        for (int lot = 0; lot < 16; lot++) {
            EXPECT.same("lot " + lot + " is done", x.lotState(lot), 'd');
            EXPECT.same("steps of lot " + lot, x.records(lot), 12);
            EXPECT.same("at the end of its route, lot " + lot, x.stepOf(lot), 12);
            EXPECT.same("yield of lot " + lot, x.yieldOf(lot), 100 * (10 + lot));
        }
        EXPECT.same("all wafers ended all steps", x.moves(), 12L * wafers);
        EXPECT.same("sound", x.isSound(), true);
    }

    /** A lot is sent back by 3 from the last step but one: 12 steps and 3 more. */
    private static void keepsTheLongestRecord() {
        WaferYard x = new WaferYard();
        Yards.route(x, Yards.step(0, 1));
        x.addRoute();
        for (int step = 0; step < 12; step++) {
            x.addStep(1, step == 10 ? 0 : 1, 1, 0, -1, step == 10);
        }
        x.setRework(1, 10, 3);
        x.addTool(0, 1, 0, 50, 9, 7);
        x.addTool(1, 1, 0, 50, 9, 0);
        x.setQualified(1, 1, 11, false);
        x.start(0, 1, 0);
        x.start(1, 1, 0);
        Yards.passTo(x, 50);
        EXPECT.same("the steps up to the measure and three again", x.records(1), 14);
        x.setQualified(1, 1, 11, true);
        Yards.passTo(x, 60);
        EXPECT.same("done", x.lotState(1), 'd');
        EXPECT.same("all rows", x.records(1), 15);
        int[] due = {0, 1, 2, 3, 4, 5, 6, 7, 8, 9, 10, 8, 9, 10, 11};
        for (int row = 0; row < 15; row++) {
            EXPECT.same("row " + row, x.recordAt(1, row, 's'), due[row]);
        }
        EXPECT.same("the last row's end", x.recordAt(1, 14, 'e') > x.recordAt(1, 13, 'e'), true);
        EXPECT.thrown("no more rows", INDEX, () -> x.recordAt(1, 15, 's'));
        EXPECT.same("off by seven", x.recordAt(1, 10, 'd'), 7);
        EXPECT.same("and by ten", x.recordAt(1, 13, 'd'), 10);
        EXPECT.same("a yield of all rows", x.yieldOf(1), 83);
        EXPECT.same("sound", x.isSound(), true);
    }

    /** 16 lots, one at a time through 12 measured steps without drift: a measure each. */
    private static void measuresEachBatchOfAll() {
        WaferYard x = new WaferYard();
        x.addRoute();
        for (int step = 0; step < 12; step++) {
            x.addStep(0, 0, 1, 0, -1, true);
        }
        x.addTool(0, 1, 0, 50, 1, 0);
        for (int lot = 0; lot < 16; lot++) {
            x.start(0, 1, 0);
        }
        Yards.passTo(x, 2000);
        EXPECT.same("a measure for each step of each lot", x.measures(0), 192);
        EXPECT.same("the last one is done", x.lotState(15), 'd');
    }

    /** Two lots let the tool drift, a third is far off, and its 13 parts with it; 6 tools and 16 lots in all. */
    private static void holdsAllLotsByOneExcursion() {
        WaferYard x = new WaferYard();
        Yards.route(x, Yards.step(0, 1));
        Yards.route(x, Yards.measured(0, 1), Yards.step(3, 1));
        Yards.drifting(x, 0, 9);
        for (int tool = 1; tool < 6; tool++) {
            Yards.tool(x, 1 + tool % 2);
        }
        x.start(0, 1, 0);
        x.start(0, 1, 0);
        x.start(1, 20, 0);
        Yards.passTo(x, 10);
        for (int lot = 3; lot < 16; lot++) {
            EXPECT.same("a part", x.split(2, 1), lot);
        }
        EXPECT.same("far off", x.recordAt(15, 0, 'd'), 18);
        x.pass(1);
        for (int lot = 2; lot < 16; lot++) {
            EXPECT.same("held, lot " + lot, x.causeOf(lot), 'e');
        }
        EXPECT.same("one excursion", x.excursions(), 1);
        EXPECT.same("two are done", x.lotState(1), 'd');
        EXPECT.sameReal("at 3 and 4", x.meanTime(), 3.5);
        EXPECT.same("sound", x.isSound(), true);
    }

    /** Five tools behind the gap work at other lots; of eleven lots five come into the gap. */
    private static void findsNoMoreRoomForTheLastLot() {
        WaferYard x = new WaferYard();
        Yards.route(x, Yards.limited(0, 1, 30), Yards.step(1, 1));
        Yards.route(x, Yards.step(1, 9));
        x.addTool(0, 3, 0, 50, 1, 0);
        for (int tool = 1; tool < 6; tool++) {
            Yards.tool(x, 1);
        }
        for (int lot = 0; lot < 16; lot++) {
            x.start(lot < 5 ? 1 : 0, 1, 0);
        }
        x.pass(5);
        for (int tool = 1; tool < 6; tool++) {
            EXPECT.same("works", x.toolState(tool), 'p');
        }
        for (int lot = 5; lot < 16; lot++) {
            EXPECT.same("step of lot " + lot, x.stepOf(lot), lot < 10 ? 1 : 0);
            EXPECT.same("lot " + lot, x.why(0, lot), lot < 10 ? 'k' : 'g');
        }
        x.scrap(9, 1);
        EXPECT.same("room for the last lot", x.why(0, 15), '-');
    }

    private static void splitsIntoAllLots() {
        WaferYard x = Yards.bare();
        x.start(0, 25, 0);
        for (int lot = 1; lot < 15; lot++) {
            x.split(0, 1);
        }
        EXPECT.same("the sixteenth lot", x.split(0, 10), 15);
        EXPECT.same("one wafer is left", x.wafers(0), 1);
        EXPECT.same("ten went", x.wafers(15), 10);
        EXPECT.thrown("there were 16 lots", STATE, () -> x.split(15, 1));
        x.merge(0, 15);
        EXPECT.thrown("there were 16, though one is merged", STATE, () -> x.start(0, 1, 0));
        x.scrap(1, 1);
        EXPECT.thrown("there were 16, though one is scrapped", STATE, () -> x.split(0, 1));
    }

    private static void splitsAndMergesBySingleWafers() {
        WaferYard x = Yards.bare();
        x.start(0, 2, 0);
        x.split(0, 1);
        EXPECT.same("one stays", x.wafers(0), 1);
        EXPECT.same("one goes", x.wafers(1), 1);
        EXPECT.thrown("one can't be split", IllegalArgumentException.class, () -> x.split(1, 1));
        EXPECT.same("both again", x.merge(1, 0), 2);
        EXPECT.same("one scrapped", x.scrap(1, 1), 1);
        EXPECT.same("it waits", x.lotState(1), 'w');
        EXPECT.same("the last one scrapped", x.scrap(1, 1), 0);
        EXPECT.same("it is scrapped", x.lotState(1), 'x');
    }

    /** The greatest kind, ticks, limit, layer, back, capacity, patience, use, rest and shift, of either sign. */
    private static void takesTheLastValuesOfARoute() {
        for (int shift = -9; shift <= 9; shift += 18) {
            WaferYard x = new WaferYard();
            Yards.route(x, new int[] {3, 9, 30, 2, 1}, new int[] {3, 9, 30, 2, 1});
            EXPECT.same("no rework at first", x.setRework(0, 1, 3), 0);
            x.addTool(3, 3, 9, 50, 9, shift);
            x.addTool(3, 3, 9, 50, 9, shift);
            x.start(0, 25, 9);
            Yards.passTo(x, 9);
            EXPECT.same("patient", x.lotState(0), 'w');
            Yards.passTo(x, 21);
            EXPECT.same("ended", x.recordAt(0, 0, 'e'), 20);
            EXPECT.same("limit", x.limitOf(0), 50);
            EXPECT.same("the tool of its layer", x.why(0, 0), '-');
            EXPECT.same("another one", x.why(1, 0), 'd');
            EXPECT.same("drift", x.driftOf(0), shift);
            Yards.passTo(x, 50);
            EXPECT.same("begun when patient enough", x.recordAt(0, 1, 'b'), 29);
            EXPECT.same("ended the last", x.recordAt(0, 1, 'e'), 40);
            EXPECT.same("off", x.recordAt(0, 1, 'd'), shift);
            EXPECT.same("yield", x.yieldOf(0), 91 * 25);
            EXPECT.same("moves", x.moves(), 50);
        }
    }

    private static void asksTheLastStepOfTheLastRoute() {
        WaferYard x = new WaferYard();
        for (int route = 0; route < 3; route++) {
            x.addRoute();
            for (int step = 0; step < 12; step++) {
                x.addStep(route, 0, 1, 0, -1, false);
            }
        }
        for (int tool = 0; tool < 6; tool++) {
            Yards.tool(x, 0);
        }
        EXPECT.same("correction of the last", x.correction(5, 2, 11), 0);
        EXPECT.same("qualified", x.setQualified(5, 2, 11, false), true);
        for (int tool = 0; tool < 6; tool++) {
            for (int route = 0; route < 3; route++) {
                for (int step = 0; step < 12; step++) {
                    boolean isLast = tool == 5 && route == 2 && step == 11;
                    boolean was = x.setQualified(tool, route, step, true);
                    EXPECT.same("barred the last alone: " + tool + " " + route + " " + step, was, !isLast);
                }
            }
        }
        EXPECT.same("rework of the last", x.setRework(2, 11, 3), 0);
        EXPECT.same("rework of the last but one", x.setRework(2, 10, 1), 0);
        EXPECT.same("rework of the last, before", x.setRework(2, 11, 0), 3);
    }

    private static void qualifiesForStepsThatComeLater() {
        WaferYard x = new WaferYard();
        for (int tool = 0; tool < 6; tool++) {
            Yards.tool(x, tool % 4);
        }
        for (int route = 0; route < 3; route++) {
            x.addRoute();
            for (int step = 0; step < 12; step++) {
                x.addStep(route, step % 4, 1, 0, -1, false);
                for (int tool = step % 4; tool < 6; tool += 4) {
                    EXPECT.same("qualified at first", x.setQualified(tool, route, step, true), true);
                }
            }
        }
    }

    /** A work and a wait go on up to the tick 5000, which does not go. */
    private static void worksUpToTheLastTick() {
        WaferYard x = new WaferYard();
        Yards.route(x, Yards.limited(0, 9, 30), Yards.step(1, 9));
        Yards.tool(x, 0);
        Yards.tool(x, 1);
        Yards.passTo(x, 4988);
        x.start(0, 3, 0);
        x.pass(12);
        EXPECT.same("ended in the last tick that went", x.recordAt(0, 0, 'e'), 4999);
        EXPECT.same("begun in it", x.toolOf(0), 1);
        EXPECT.same("promised behind it", x.promised(0), 5018);
        EXPECT.same("share", Float.floatToIntBits(x.workingShare()), Float.floatToIntBits(11f / 10000f));
        EXPECT.thrown("no more ticks", STATE, () -> x.pass(1));
        EXPECT.same("still in the tool", x.lotState(0), 't');
        EXPECT.same("lots start all the same", x.start(0, 1, 0), 1);
        EXPECT.same("and wait", x.lotState(1), 'w');
    }
}
