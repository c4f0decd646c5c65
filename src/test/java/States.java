import java.util.List;

/** Objects in which every call is tried: empty ones, some with a little, full ones. */
final class States {

    private static final int NONE = DrillCount.NONE;

    private States() {
    }

    static List<Script> all() {
        return List.of(new Script("a new one"), axesOnly(), little(), full(), fullAndNarrow(),
                allAway());
    }

    private static Script axesOnly() {
        return axes(new Script("axes only"), 0, 1, 2, 0, 2);
    }

    private static Script axes(Script script, int... kinds) {
        for (int kind : kinds) {
            script.call("axis", kind);
        }
        return script;
    }

    /** Three axes, a tree of three levels, a document that is away, something selected. */
    private static Script little() {
        Script script = axes(new Script("a little"), 0, 1, 2);
        script.call("category", 0, NONE).call("category", 0, 0).call("category", 0, 1);
        script.call("category", 0, 0).call("category", 1, NONE).call("category", 1, NONE);
        int[][] tags = {{2, 3, 4}, {1, 5}, {0, 4, 5}, {}, {3}};
        for (int d = 0; d < tags.length; d++) {
            script.call("document", 90 - d % 2);
            for (int category : tags[d]) {
                script.call("tag", d, category, true);
            }
            script.call("number", d, 2, d / 2);
        }
        script.call("unnumber", 4, 2).call("remove", 2);
        script.call("select", 1, true).call("range", 2, 0, 0).call("missing", 2, true);
        return script.call("select", 3, true).call("back");
    }

    /** All that an object may hold, all axes open. */
    private static Script full() {
        return filled(new Script("a full one"));
    }

    private static Script filled(Script script) {
        axes(script, 0, 1, 2, 0, 2);
        for (int c = 0; c < 40; c++) {
            script.call("category", c < 12 ? 0 : c < 24 ? 1 : 3, c % 12 == 0 || c > 35 ? NONE
                    : c % 12 < 6 ? c - 1 : c - c % 12 + c % 5);
        }
        for (int d = 0; d < 40; d++) {
            script.call("document", d * 37 % 100);
            script.call("tag", d, d, true).call("tag", d, d * 7 % 40, true);
            script.call("number", d, 2 + d % 2 * 2, d * 13 % 30 - 15);
        }
        return script;
    }

    /** A full one with all that may be selected, more than 16 steps behind it. */
    private static Script fullAndNarrow() {
        Script script = filled(new Script("a full one, narrow"));
        for (int c = 0; c < 40; c += 3) {
            script.call("select", c, true);
        }
        for (int i = 0; i < 3; i++) {
            script.call("range", 2, 10 * i - 15, 10 * i).call("range", 4, 10 * i - 18, 10 * i - 5);
        }
        for (int axis = 0; axis < 5; axis++) {
            script.call("missing", axis, true);
        }
        return script.call("open", 1).call("remove", 17);
    }

    private static Script allAway() {
        Script script = axes(new Script("all away"), 0, 2, 1);
        for (int c = 0; c < 14; c++) {
            script.call("category", c % 2 * 2, c < 4 ? NONE : c - 4);
        }
        for (int d = 0; d < 40; d++) {
            script.call("document", d).call("tag", d, d % 14, true).call("number", d, 1, d);
            script.call("remove", d);
        }
        return script.call("select", 0, true).call("range", 1, 0, 9);
    }
}
