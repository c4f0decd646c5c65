/** An object with all that it may hold: 5 axes, 40 categories, 40 documents, 16 steps. */
public final class FullTest {

    private static final int NONE = DrillCount.NONE;
    private static final Check CHECK = new Check();

    public static void main(String[] args) {
        counts(full());
        trees(full());
        documents(full());
        numbers(full());
        steps(full());
        CHECK.end("FullTest");
    }

    /**
     * Axis 0 ANY: 0 to 27 at the top. Axis 1 ALL: 28 to 39 at the top. Axes 2 to 4 NUMBER.
     * Document d has score d, category d, number d / 2 on axis 4 and none on axes 2 and 3.
     */
    private static DrillCount full() {
        DrillCount x = new DrillCount();
        int[] kinds = {0, 1, 2, 2, 2};
        for (int kind : kinds) {
            x.axis(kind);
        }
        for (int c = 0; c < 40; c++) {
            x.category(c < 28 ? 0 : 1, NONE);
        }
        for (int d = 0; d < 40; d++) {
            x.document(d);
            x.tag(d, d, true);
            x.number(d, 4, d / 2);
        }
        return x;
    }

    private static void counts(DrillCount x) {
        int[] due = {5, 40, 40, 40, 40, 0, 0, 0, 0};
        for (int what = 0; what < due.length; what++) {
            CHECK.same("count(" + what + ")", x.count(what), due[what]);
        }
        for (int axis = 0; axis < 5; axis++) {
            CHECK.same("near(" + axis + ")", x.near(axis), 40);
            CHECK.same("lift(" + axis + ", 4)", x.lift(axis, 4), 40);
        }
        CHECK.same("shownMissing(0)", x.shownMissing(0), 12);
        CHECK.same("shownMissing(1)", x.shownMissing(1), 28);
        CHECK.same("shownMissing(4)", x.shownMissing(4), 0);
        CHECK.same("miss(0)", x.miss(0), 40);
        CHECK.same("miss(5)", x.miss(5), 0);
    }

    private static void trees(DrillCount x) {
        for (int c = 0; c < 40; c++) {
            CHECK.same("shown", x.shown(c), 1);
            CHECK.same("sums(.., 0)", x.sums(c, 0), 1);
            CHECK.same("sums(.., 1)", x.sums(c, 1), 0);
            CHECK.same("click(.., 0)", x.click(c, 0), 1);
            CHECK.same("both with the next", x.both(c, (c + 1) % 40), 0);
        }
        CHECK.same("sets(0, 0)", x.sets(0, 0), 0);
        CHECK.same("sets(1, 1)", x.sets(1, 1), ((1L << 12) - 1) << 28);
        CHECK.same("top(0, 0, 27)", x.top(0, 0, 27), 27);
        CHECK.same("top(0, 0, 28)", x.top(0, 0, 28), NONE);
        CHECK.same("read(0, 9)", x.read(0, 9), 40);
        CHECK.same("read(1, 9)", x.read(1, 9), 40);
        CHECK.same("path(1, 0)", x.path(1, 0), 28);
        CHECK.same("split()", x.split(), 0);
        CHECK.same("cover(0, NONE)", x.cover(0, NONE), NONE);
        CHECK.same("cover(1, NONE)", x.cover(1, NONE), 12);
        CHECK.same("cover(1, 11)", x.cover(1, 11), 39);
    }

    private static void documents(DrillCount x) {
        for (int d = 0; d < 40; d++) {
            CHECK.same("hit", x.hit(d), 39 - d);
            CHECK.same("doc(.., 4)", x.doc(d, 4), 39 - d);
            CHECK.same("doc(.., 3)", x.doc(d, 3), 31);
            CHECK.same("nearest", x.nearest(d), d == 39 ? 38 : 39);
            CHECK.same("alike to the next", x.alike(d, (d + 1) % 40), 0);
        }
        CHECK.same("most()", x.most(), 39);
    }

    private static void numbers(DrillCount x) {
        CHECK.same("bins(4, 8)", x.bins(4, 8), 8);
        CHECK.same("bin(4, 8, 0, 2)", x.bin(4, 8, 0, 2), 6);
        CHECK.same("bin(4, 8, 7, 1)", x.bin(4, 8, 7, 1), 19);
        CHECK.same("even(4, 8)", x.even(4, 8), 6);
        CHECK.same("even(4, 1)", x.even(4, 1), 40);
        CHECK.same("bins(3, 8)", x.bins(3, 8), 0);
        CHECK.same("middle(4, 0)", x.middle(4, 0), 9);
        CHECK.same("middle(4, 1)", x.middle(4, 1), 19);
    }

    private static void steps(DrillCount x) {
        for (int c = 0; c < 40; c++) {
            CHECK.yes("select", x.select(c, true));
        }
        CHECK.same("count(5)", x.count(5), 40);
        CHECK.same("count(7)", x.count(7), 3);
        CHECK.same("count(8)", x.count(8), 16);
        CHECK.same("hits", x.count(4), 0);
        CHECK.same("split()", x.split(), NONE);
        CHECK.yes("remove(39), the first in order", x.remove(39));
        CHECK.yes("remove(0), the last in order", x.remove(0));
        CHECK.same("doc(38, 4)", x.doc(38, 4), 0);
        CHECK.same("doc(1, 4)", x.doc(1, 4), 37);
        CHECK.same("near(1)", x.near(1), 27);
        for (int step = 0; step < 16; step++) {
            CHECK.yes("back()", x.back());
        }
        CHECK.no("back()", x.back());
        CHECK.same("count(5)", x.count(5), 24);
        CHECK.same("hits", x.count(4), 23);
    }
}
