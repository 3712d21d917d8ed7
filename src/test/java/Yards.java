/** Yards that several tests begin with. */
final class Yards {
    private Yards() {
    }

    /** A route of steps, each told as kind, ticks, limit, layer and 1 if it is measured. */
    static int route(WaferYard yard, int[]... steps) {
        int route = yard.addRoute();
        for (int[] s : steps) {
            yard.addStep(route, s[0], s[1], s[2], s[3], s[4] == 1);
        }
        return route;
    }

    static int[] step(int kind, int ticks) {
        return new int[] {kind, ticks, 0, -1, 0};
    }

    static int[] measured(int kind, int ticks) {
        return new int[] {kind, ticks, 0, -1, 1};
    }

    static int[] limited(int kind, int ticks, int limit) {
        return new int[] {kind, ticks, limit, -1, 0};
    }

    static int[] layered(int kind, int ticks, int layer) {
        return new int[] {kind, ticks, 0, layer, 0};
    }

    /** A tool that takes one lot at once and does not drift or tire. */
    static int tool(WaferYard yard, int kind) {
        return yard.addTool(kind, 1, 0, 50, 1, 0);
    }

    static int drifting(WaferYard yard, int kind, int shift) {
        return yard.addTool(kind, 1, 0, 50, 9, shift);
    }

    /** One route of one step of two ticks, and one tool for it. */
    static WaferYard small() {
        WaferYard yard = new WaferYard();
        route(yard, step(0, 2));
        tool(yard, 0);
        return yard;
    }

    /** One route of the kinds 0 and 1, and no tool. */
    static WaferYard bare() {
        WaferYard yard = new WaferYard();
        route(yard, step(0, 2), step(1, 3));
        return yard;
    }

    static void passTo(WaferYard yard, int tick) {
        for (int left = tick - yard.tick(); left > 0; left = tick - yard.tick()) {
            yard.pass(Math.min(left, 50));
        }
    }

    /**
     * Some lots of a route of one step let a tool drift by the shift each, then a lot of five
     * wafers, whose number is their count, passes a measured step of another route, so that its
     * deviation is count times shift, and waits for a step without tools. It ends that step in
     * the tick count + 5; the measure comes in the next tick to go, count + 8.
     */
    static WaferYard aheadOfMeasure(int count, int shift, int back) {
        WaferYard yard = new WaferYard();
        route(yard, step(0, 1));
        route(yard, measured(0, 1), step(1, 1));
        yard.setRework(1, 0, back);
        drifting(yard, 0, shift);
        for (int i = 0; i < count; i++) {
            yard.start(0, 1, 0);
        }
        yard.start(1, 5, 0);
        passTo(yard, count + 8);
        return yard;
    }
}
