/** Promises 21 to 27 and 39: how many, with axes lifted or not. */
public final class CountTest {

    private static final int NONE = DrillCount.NONE;
    private static final Check CHECK = new Check();

    public static void main(String[] args) {
        promise21();
        promise22();
        promise23();
        promise24Any();
        promise24All();
        promise25();
        promise26();
        promise27();
        promise39();
        CHECK.end("CountTest");
    }

    /**
     * Axis 0 ANY: 0 with 1 and 2 below it, 3. Axis 1 ALL: 4, 5. Axis 2 NUMBER.
     * Documents 0 to 5: 1 2 4 / 1 4 5 / 2 5 / 3 4 5 / 0 / 4, numbers 1 2 3 4 5 and none.
     */
    private static DrillCount six() {
        DrillCount x = new DrillCount();
        x.axis(0);
        x.axis(1);
        x.axis(2);
        x.category(0, NONE);
        x.category(0, 0);
        x.category(0, 0);
        x.category(0, NONE);
        x.category(1, NONE);
        x.category(1, NONE);
        int[][] tags = {{1, 2, 4}, {1, 4, 5}, {2, 5}, {3, 4, 5}, {0}, {4}};
        for (int d = 0; d < tags.length; d++) {
            x.document(90 - d);
            for (int category : tags[d]) {
                x.tag(d, category, true);
            }
            if (d < 5) {
                x.number(d, 2, d + 1);
            }
        }
        return x;
    }

    private static void promise21() {
        DrillCount x = six();
        CHECK.same("near(0)", x.near(0), 6);
        x.select(1, true);
        x.select(5, true);
        x.range(2, 2, 3);
        CHECK.same("near(0): 1 2", x.near(0), 2);
        CHECK.same("near(1): 1", x.near(1), 1);
        CHECK.same("near(2): 1", x.near(2), 1);
        CHECK.same("hits", x.count(4), 1);
        x.remove(2);
        CHECK.same("near(0)", x.near(0), 1);
        CHECK.same("near(-1)", x.near(-1), NONE);
        CHECK.same("near(3)", x.near(3), NONE);
    }

    private static void promise22() {
        DrillCount x = six();
        int[] open = {4, 2, 2, 1, 4, 3};
        for (int c = 0; c < open.length; c++) {
            CHECK.same("shown(" + c + "), all open", x.shown(c), open[c]);
        }
        x.select(3, true);
        CHECK.same("shown(0), its own axis does not count", x.shown(0), 4);
        CHECK.same("shown(3)", x.shown(3), 1);
        CHECK.same("shown(4), within what is selected", x.shown(4), 1);
        x.open(0);
        x.select(5, true);
        CHECK.same("shown(4), ALL: within the hits", x.shown(4), 2);
        CHECK.same("shown(5)", x.shown(5), 3);
        CHECK.same("shown(0)", x.shown(0), 2);
        CHECK.same("shown(2)", x.shown(2), 1);
        CHECK.same("shown(6)", x.shown(6), NONE);
        CHECK.same("shown(-1)", x.shown(-1), NONE);
    }

    private static void promise23() {
        DrillCount x = six();
        CHECK.same("shownMissing(0)", x.shownMissing(0), 1);
        CHECK.same("shownMissing(1)", x.shownMissing(1), 1);
        CHECK.same("shownMissing(2)", x.shownMissing(2), 1);
        x.select(0, true);
        CHECK.same("shownMissing(0), lifted", x.shownMissing(0), 1);
        CHECK.same("shownMissing(2): 5 is no hit", x.shownMissing(2), 0);
        x.open(0);
        x.range(2, 1, 3);
        CHECK.same("shownMissing(0): 5 does not pass 2", x.shownMissing(0), 0);
        CHECK.same("shownMissing(2), lifted", x.shownMissing(2), 1);
        CHECK.same("shownMissing(1): 4 does not pass 2", x.shownMissing(1), 0);
        x.open(2);
        x.select(4, true);
        CHECK.same("shownMissing(1), ALL: of the hits", x.shownMissing(1), 0);
        x.open(1);
        x.missing(1, true);
        CHECK.same("shownMissing(1)", x.shownMissing(1), 1);
        CHECK.same("shownMissing(-1)", x.shownMissing(-1), NONE);
        CHECK.same("shownMissing(3)", x.shownMissing(3), NONE);
    }

    private static void promise24Any() {
        DrillCount x = six();
        CHECK.same("click(1, 0), open", x.click(1, 0), 2);
        CHECK.same("click(1, 1), open", x.click(1, 1), 2);
        CHECK.same("click(1, 2), open", x.click(1, 2), 6);
        x.select(3, true);
        x.missing(0, true);
        CHECK.same("click(1, 0), it alone, missing no more", x.click(1, 0), 2);
        CHECK.same("click(1, 1), it, too", x.click(1, 1), 4);
        CHECK.same("click(1, 2), nothing changes", x.click(1, 2), 2);
        CHECK.same("click(3, 0)", x.click(3, 0), 1);
        CHECK.same("click(3, 1), it is already", x.click(3, 1), 2);
        CHECK.same("click(3, 2), missing is left", x.click(3, 2), 1);
        x.missing(0, false);
        CHECK.same("click(3, 2), the axis is open then", x.click(3, 2), 6);
        x.select(5, true);
        CHECK.same("click(0, 0), with the other axis", x.click(0, 0), 2);
        CHECK.same("what is selected stays", x.count(5), 2);
        CHECK.same("hits stay", x.count(4), 1);
        CHECK.same("steps stay", x.count(8), 4);
        CHECK.same("click(0, 3)", x.click(0, 3), NONE);
        CHECK.same("click(0, -1)", x.click(0, -1), NONE);
        CHECK.same("click(6, 0)", x.click(6, 0), NONE);
        CHECK.same("click(-1, 0)", x.click(-1, 0), NONE);
    }

    private static void promise24All() {
        DrillCount x = six();
        x.select(4, true);
        CHECK.same("click(5, 0), it, too", x.click(5, 0), 2);
        CHECK.same("click(5, 1)", x.click(5, 1), 2);
        CHECK.same("click(5, 2)", x.click(5, 2), 4);
        CHECK.same("click(4, 0)", x.click(4, 0), 4);
        CHECK.same("click(4, 2)", x.click(4, 2), 6);
        x.missing(1, true);
        CHECK.same("click(5, 0), and missing", x.click(5, 0), 0);
        CHECK.same("click(4, 2), missing is left", x.click(4, 2), 1);
    }

    private static void promise25() {
        DrillCount x = six();
        x.select(1, true);
        x.select(5, true);
        x.range(2, 3, 9);
        CHECK.same("hits", x.count(4), 0);
        CHECK.same("lift(0, 1): 2 3 4", x.lift(0, 1), 3);
        CHECK.same("lift(1, 0)", x.lift(1, 0), 3);
        CHECK.same("lift(0, 2): 1 2 3", x.lift(0, 2), 3);
        CHECK.same("lift(1, 2): 0 1", x.lift(1, 2), 2);
        CHECK.same("lift(0, 0): 2 3", x.lift(0, 0), 2);
        CHECK.same("lift(2, 2): 1", x.lift(2, 2), 1);
        CHECK.same("lift(0, 3)", x.lift(0, 3), NONE);
        CHECK.same("lift(3, 0)", x.lift(3, 0), NONE);
        CHECK.same("lift(-1, 0)", x.lift(-1, 0), NONE);
        CHECK.same("lift(0, -1)", x.lift(0, -1), NONE);
    }

    private static void promise26() {
        DrillCount x = six();
        CHECK.same("sums(0, 0): 4", x.sums(0, 0), 1);
        CHECK.same("sums(0, 1): 0 is in two", x.sums(0, 1), 1);
        CHECK.same("sums(1, 0)", x.sums(1, 0), 2);
        CHECK.same("sums(1, 1)", x.sums(1, 1), 0);
        x.tag(1, 0, true);
        CHECK.same("sums(0, 0): 1 4", x.sums(0, 0), 2);
        CHECK.same("sums(0, 1): 0 and 1", x.sums(0, 1), 2);
        x.select(3, true);
        CHECK.same("sums(0, 1), its own axis lifted", x.sums(0, 1), 2);
        x.range(2, 2, 9);
        CHECK.same("sums(0, 1), 0 does not count", x.sums(0, 1), 1);
        CHECK.same("sums(4, 0), of the hits", x.sums(4, 0), 1);
        x.open(0);
        x.select(5, true);
        CHECK.same("sums(4, 0), ALL: of the hits", x.sums(4, 0), 2);
        x.open(2);
        x.open(1);
        x.open(0);
        x.move(0, 3);
        CHECK.same("sums(3, 1), 0 is below it", x.sums(3, 1), 0);
        x.tag(4, 3, true);
        CHECK.same("sums(3, 1), 4 is in 0 and in itself", x.sums(3, 1), 1);
        CHECK.same("sums(0, 2)", x.sums(0, 2), NONE);
        CHECK.same("sums(0, -1)", x.sums(0, -1), NONE);
        CHECK.same("sums(6, 0)", x.sums(6, 0), NONE);
        CHECK.same("sums(-1, 0)", x.sums(-1, 0), NONE);
    }

    private static void promise27() {
        DrillCount x = six();
        CHECK.same("sets(0, 0)", x.sets(0, 0), 0);
        CHECK.same("sets(0, 1)", x.sets(0, 1), 14);
        CHECK.same("sets(1, 1)", x.sets(1, 1), 48);
        x.range(2, 5, 5);
        CHECK.same("sets(0, 0): only 0 is shown", x.sets(0, 0), 14);
        CHECK.same("sets(1, 0)", x.sets(1, 0), 48);
        x.select(3, true);
        CHECK.same("sets(0, 0), its own axis lifted", x.sets(0, 0), 14);
        x.open(2);
        x.open(0);
        x.range(2, 4, 4);
        CHECK.same("sets(0, 0): only 3 is shown", x.sets(0, 0), 7);
        x.open(2);
        x.select(5, true);
        x.tag(1, 4, false);
        x.tag(3, 4, false);
        CHECK.same("sets(1, 0), ALL: of the hits", x.sets(1, 0), 16);
        x.tag(1, 4, true);
        CHECK.same("sets(1, 0)", x.sets(1, 0), 0);
        CHECK.same("sets(2, 0)", x.sets(2, 0), 0);
        CHECK.same("sets(2, 1)", x.sets(2, 1), 0);
        CHECK.same("sets(0, 2)", x.sets(0, 2), 0);
        CHECK.same("sets(0, -1)", x.sets(0, -1), 0);
        CHECK.same("sets(-1, 0)", x.sets(-1, 0), 0);
        CHECK.same("sets(3, 1)", x.sets(3, 1), 0);
        for (int c = 6; c < 40; c++) {
            x.category(0, 3);
        }
        CHECK.same("sets(0, 1), with the 40th", x.sets(0, 1), (1L << 40) - 1 - 1 - 8 - 16 - 32);
        x.move(1, NONE);
        x.move(2, NONE);
        CHECK.same("sets(0, 1), 0 is a leaf", x.sets(0, 1), (1L << 40) - 1 - 8 - 16 - 32);
    }

    private static void promise39() {
        DrillCount x = six();
        CHECK.same("miss(0), all open", x.miss(0), 6);
        CHECK.same("miss(1), all open", x.miss(1), 0);
        x.select(1, true);
        x.select(5, true);
        x.range(2, 2, 3);
        CHECK.same("miss(0): 1", x.miss(0), 1);
        CHECK.same("miss(1): 2", x.miss(1), 1);
        CHECK.same("miss(2): 0 3", x.miss(2), 2);
        CHECK.same("miss(3): 4 5", x.miss(3), 2);
        CHECK.same("miss(4)", x.miss(4), 0);
        CHECK.same("miss(5)", x.miss(5), 0);
        CHECK.same("miss(6)", x.miss(6), NONE);
        CHECK.same("miss(-1)", x.miss(-1), NONE);
        x.remove(5);
        CHECK.same("miss(3), less one", x.miss(3), 1);
    }
}
