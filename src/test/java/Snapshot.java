/** All that can be asked of a yard, as one text; a call that throws tells the name of its exception. */
final class Snapshot {
    private final WaferYard yard;
    private final StringBuilder told = new StringBuilder();

    private Snapshot(WaferYard yard) {
        this.yard = yard;
    }

    static String of(WaferYard yard) {
        Snapshot snapshot = new Snapshot(yard);
        snapshot.figures();
        for (int lot = 0; lot < 16; lot++) {
            snapshot.lot(lot);
        }
        for (int tool = 0; tool < 6; tool++) {
            snapshot.tool(tool);
        }
        return snapshot.told.toString();
    }

    /** What is told by calls alone that change it; so a yard is asked for it at its end. */
    static String settings(WaferYard yard) {
        Snapshot snapshot = new Snapshot(yard);
        for (int route = 0; route < 3; route++) {
            for (int step = 0; step < 12; step++) {
                snapshot.step(route, step);
            }
        }
        for (int route = 0; route < 3; route++) {
            int r = route;
            snapshot.tell("addStep", () -> yard.addStep(r, 0, 1, 0, -1, false));
            snapshot.tell("start", () -> yard.start(r, 1, 0));
        }
        snapshot.tell("addRoute", () -> yard.addRoute());
        snapshot.tell("addTool", () -> yard.addTool(0, 1, 0, 1, 1, 0));
        return snapshot.told.toString();
    }

    private void tell(String what, Expect.Call call) {
        Object answer;
        try {
            answer = call.run();
        } catch (RuntimeException e) {
            answer = e.getClass().getSimpleName();
        }
        told.append(what).append(' ').append(answer).append('\n');
    }

    private void figures() {
        tell("tick", () -> yard.tick());
        tell("excursions", () -> yard.excursions());
        tell("moves", () -> yard.moves());
        tell("workingShare", () -> yard.workingShare());
        tell("meanTime", () -> yard.meanTime());
        tell("isSound", () -> yard.isSound());
    }

    private void lot(int lot) {
        String of = " of lot " + lot;
        tell("lotState" + of, () -> yard.lotState(lot));
        tell("causeOf" + of, () -> yard.causeOf(lot));
        tell("stepOf" + of, () -> yard.stepOf(lot));
        tell("wafers" + of, () -> yard.wafers(lot));
        tell("limitOf" + of, () -> yard.limitOf(lot));
        tell("toolOf" + of, () -> yard.toolOf(lot));
        tell("parentOf" + of, () -> yard.parentOf(lot));
        tell("records" + of, () -> yard.records(lot));
        tell("promised" + of, () -> yard.promised(lot));
        tell("yieldOf" + of, () -> yard.yieldOf(lot));
        for (int index = 0; index < 4; index++) {
            record(lot, index);
        }
        for (int tool = 0; tool < 6; tool++) {
            int t = tool;
            tell("why tool " + tool + of, () -> yard.why(t, lot));
        }
    }

    private void record(int lot, int index) {
        for (char what : "stbed".toCharArray()) {
            tell("recordAt " + lot + " " + index + " " + what, () -> yard.recordAt(lot, index, what));
        }
    }

    private void tool(int tool) {
        String of = " of tool " + tool;
        tell("toolState" + of, () -> yard.toolState(tool));
        tell("setupOf" + of, () -> yard.setupOf(tool));
        tell("driftOf" + of, () -> yard.driftOf(tool));
        tell("useOf" + of, () -> yard.useOf(tool));
        tell("measures" + of, () -> yard.measures(tool));
        for (int route = 0; route < 3; route++) {
            for (int step = 0; step < 12; step++) {
                int r = route;
                int s = step;
                tell("correction of " + r + " " + s + of, () -> yard.correction(tool, r, s));
            }
        }
    }

    private void step(int route, int step) {
        String of = " of " + route + " " + step;
        tell("setRework" + of, () -> yard.setRework(route, step, 0));
        for (int tool = 0; tool < 6; tool++) {
            int t = tool;
            tell("setQualified " + tool + of, () -> yard.setQualified(t, route, step, true));
        }
    }
}
