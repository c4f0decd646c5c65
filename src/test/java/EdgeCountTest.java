import java.io.IOException;

/** Promises 21 to 27 and 39, each boundary that the document names by a test of its own. */
public final class EdgeCountTest {

    private static final int NONE = DrillCount.NONE;
    private static final long FORTY = (1L << 40) - 1;
    private static final Check CHECK = new Check();

    public static void main(String[] args) throws IOException {
        Edges.run(EdgeCountTest.class, CHECK, 21, 22, 23, 24, 25, 26, 27, 39);
    }

    /** One axis of this kind with so many categories at the top, so many documents with category 0. */
    private static DrillCount one(int kind, int categories, int documents) {
        DrillCount x = Made.axes(kind);
        Made.flat(x, 0, categories);
        for (int d = 0; d < documents; d++) {
            Made.document(x, 50, 0);
        }
        return x;
    }

    // ---- 21: near

    @Edge(promise = 21, words = "NONE: others")
    private static void nearNoAxis() {
        DrillCount x = new DrillCount();
        Made.documents(x, 1);
        CHECK.same("none there", x.near(0), NONE);
        x.axis(0);
        CHECK.allSame("axis", Made.outside(0, 0), x::near, NONE);
        DrillCount full = Made.full();
        CHECK.allSame("axis, five there", Made.outside(0, 4), full::near, NONE);
        CHECK.same("axis 4", full.near(4), 40);
    }

    @Edge(promise = 21, words = "NEAR an axis: those that PASS all others.")
    private static void nearFromNoneToForty() {
        DrillCount x = Made.axes(0);
        CHECK.same("no document", x.near(0), 0);
        Made.documents(x, 40);
        CHECK.same("forty, there is no other axis", x.near(0), 40);
        Made.flat(x, 0, 1);
        x.select(0, true);
        CHECK.same("its own axis does not count", x.near(0), 40);
        CHECK.same("though there is no hit", x.count(4), 0);
        x.axis(2);
        x.range(1, 0, 0);
        CHECK.same("none passes the other", x.near(0), 0);
        CHECK.same("nor here", x.near(1), 0);
    }

    @Edge(promise = 21, words = "NEAR an axis: those that PASS all others.")
    private static void nearEachOfFive() {
        DrillCount x = Made.axes(2, 2, 2, 2, 2);
        for (int d = 0; d < 6; d++) {
            x.document(50);
            for (int axis = 0; axis < 5; axis++) {
                if (axis != d) {
                    x.number(d, axis, 1);
                }
            }
        }
        for (int axis = 0; axis < 5; axis++) {
            x.range(axis, 1, 1);
        }
        for (int axis = 0; axis < 5; axis++) {
            CHECK.same("the hit and the one that misses by this one", x.near(axis), 2);
        }
        CHECK.same("hits", x.count(4), 1);
    }

    // ---- 22: shown

    @Edge(promise = 22, words = "NONE: others")
    private static void shownOfNoCategory() {
        DrillCount x = Made.axes(0);
        CHECK.same("none there", x.shown(0), NONE);
        Made.flat(x, 0, 1);
        CHECK.allSame("category", Made.outside(0, 0), x::shown, NONE);
        CHECK.same("no document", x.shown(0), 0);
        DrillCount full = Made.full();
        CHECK.allSame("category, forty there", Made.outside(0, 39), full::shown, NONE);
        CHECK.same("the 40th", full.shown(39), 1);
        CHECK.same("the first, each document once", full.shown(0), 6);
    }

    @Edge(promise = 22, words = "ANY: how many NEAR its axis HAVE it; ALL: how many HITS HAVE it.")
    private static void shownFromNoneToForty() {
        for (int kind = 0; kind <= 1; kind++) {
            DrillCount x = one(kind, 2, 40);
            CHECK.same("all forty", x.shown(0), 40);
            CHECK.same("none", x.shown(1), 0);
            x.select(1, true);
            CHECK.same("ANY: lifted, ALL: no hit", x.shown(0), kind == 0 ? 40 : 0);
            x.select(0, true);
            CHECK.same("the same", x.shown(0), kind == 0 ? 40 : 0);
            x.select(1, false);
            CHECK.same("it alone is selected", x.shown(0), 40);
            x.axis(2);
            x.range(1, 0, 0);
            CHECK.same("none passes another axis", x.shown(0), 0);
        }
    }

    @Edge(promise = 22, words = "each document once however many branches it is in")
    private static void shownOnceFromAllBranches() {
        DrillCount x = Made.axes(0);
        Made.flat(x, 0, 1);
        Made.document(x, 50, 0);
        for (int c = 1; c < 40; c++) {
            x.category(0, 0);
            x.tag(0, c, true);
        }
        CHECK.same("one document in forty", x.shown(0), 1);
        CHECK.same("its 39th branch", x.shown(39), 1);
    }

    // ---- 23: shownMissing

    @Edge(promise = 23, words = "NONE: others")
    private static void shownMissingOfNoAxis() {
        DrillCount x = new DrillCount();
        Made.documents(x, 1);
        CHECK.same("none there", x.shownMissing(0), NONE);
        DrillCount full = Made.full();
        CHECK.allSame("axis", Made.outside(0, 4), full::shownMissing, NONE);
        CHECK.same("axis 4", full.shownMissing(4), 0);
        CHECK.same("axis 2", full.shownMissing(2), 40);
    }

    @Edge(promise = 23, words = "Of MISSING of an axis: how many NEAR it (ALL: HITS) are MISSING there.")
    private static void shownMissingFromNoneToForty() {
        for (int kind = 0; kind <= 2; kind++) {
            DrillCount x = Made.axes(kind, 2);
            CHECK.same("no document", x.shownMissing(0), 0);
            Made.documents(x, 40);
            CHECK.same("all forty", x.shownMissing(0), 40);
            x.missing(0, true);
            CHECK.same("it is selected", x.shownMissing(0), 40);
            x.open(0);
            x.range(1, 0, 0);
            CHECK.same("none passes another axis", x.shownMissing(0), 0);
        }
    }

    @Edge(promise = 23, words = "Of MISSING of an axis: how many NEAR it (ALL: HITS) are MISSING there.")
    private static void shownMissingNearOrHits() {
        for (int kind = 0; kind <= 1; kind++) {
            DrillCount x = one(kind, 1, 3);
            Made.documents(x, 2);
            CHECK.same("open", x.shownMissing(0), 2);
            x.select(0, true);
            CHECK.same("ANY: lifted, ALL: no hit is", x.shownMissing(0), kind == 0 ? 2 : 0);
        }
        DrillCount y = Made.numbered(1, 2);
        y.document(50);
        y.range(0, 1, 1);
        CHECK.same("NUMBER: lifted", y.shownMissing(0), 1);
    }

    // ---- 24: click

    @Edge(promise = 24, words = "NONE: others")
    private static void clickOnNoCategory() {
        DrillCount x = Made.axes(0);
        DrillCount full = Made.full();
        for (int what = 0; what <= 2; what++) {
            int asked = what;
            CHECK.same("none there", x.click(0, what), NONE);
            CHECK.allSame("category", Made.outside(0, 39), c -> full.click(c, asked), NONE);
        }
        CHECK.same("the 40th", full.click(39, 0), 1);
    }

    @Edge(promise = 24, words = "What 0: CLICK, 1: MORE, 2: LESS; NONE: others")
    private static void clickOfNoSuchWhat() {
        DrillCount x = Made.full();
        for (int category : new int[] {0, 6, 39}) {
            CHECK.allSame("what", Made.outside(0, 2), w -> x.click(category, w), NONE);
        }
        CHECK.same("what 0", x.click(0, 0), 6);
        CHECK.same("what 2", x.click(0, 2), 40);
    }

    @Edge(promise = 24, words = "CLICK of a CATEGORY: ANY: it alone is SELECTED on its axis; ALL: it, too")
    private static void clickAloneOrToo() {
        for (int kind = 0; kind <= 1; kind++) {
            DrillCount x = one(kind, 3, 2);
            x.tag(1, 1, true);
            x.document(50);
            CHECK.same("open", x.click(1, 0), 1);
            x.select(0, true);
            CHECK.same("another is selected", x.click(1, 0), 1);
            x.select(2, true);
            CHECK.same("one that none has is, too", x.click(1, 0), kind == 0 ? 1 : 0);
            x.select(1, true);
            CHECK.same("it is selected already", x.click(1, 0), kind == 0 ? 1 : 0);
            x.open(0);
            x.missing(0, true);
            CHECK.same("MISSING is selected", x.click(1, 0), kind == 0 ? 1 : 0);
        }
    }

    @Edge(promise = 24, words = "MORE: how many, were it SELECTED, too.")
    private static void moreOfOneThatIsSelected() {
        for (int kind = 0; kind <= 1; kind++) {
            DrillCount x = one(kind, 2, 3);
            x.tag(0, 1, true);
            x.document(50);
            CHECK.same("open", x.click(0, 1), 3);
            x.select(0, true);
            CHECK.same("it is already: the hits", x.click(0, 1), 3);
            CHECK.same("the other, too", x.click(1, 1), kind == 0 ? 3 : 1);
            x.missing(0, true);
            CHECK.same("MISSING, too", x.click(0, 1), kind == 0 ? 4 : 0);
        }
    }

    @Edge(promise = 24, words = "LESS: how many, were it SELECTED no more.")
    private static void lessOfOneThatIsNotSelected() {
        for (int kind = 0; kind <= 1; kind++) {
            DrillCount x = one(kind, 2, 3);
            x.tag(0, 1, true);
            x.document(50);
            CHECK.same("it is not, all open", x.click(0, 2), 4);
            x.select(1, true);
            CHECK.same("it is not: the hits", x.click(0, 2), 1);
            CHECK.same("the last one: the axis is open then", x.click(1, 2), 4);
            x.select(0, true);
            CHECK.same("one of two", x.click(1, 2), 3);
            CHECK.same("the other of two", x.click(0, 2), 1);
        }
    }

    @Edge(promise = 24, words = "how many HITS there were then")
    private static void clickChangesNothing() {
        DrillCount x = Made.full();
        x.select(1, true);
        x.missing(1, true);
        for (int c = 0; c < 40; c++) {
            for (int what = 0; what <= 2; what++) {
                x.click(c, what);
            }
        }
        CHECK.same("count(5)", x.count(5), 1);
        CHECK.same("count(7)", x.count(7), 3);
        CHECK.same("count(8)", x.count(8), 2);
        CHECK.same("hits", x.count(4), 5);
        CHECK.same("another axis counts", x.click(39, 0), 0);
    }

    // ---- 25: lift

    @Edge(promise = 25, words = "NONE: others")
    private static void liftOfNoAxis() {
        DrillCount x = new DrillCount();
        CHECK.same("none there", x.lift(0, 0), NONE);
        x.axis(0);
        CHECK.allSame("one", Made.outside(0, 0), a -> x.lift(a, 0), NONE);
        CHECK.allSame("other", Made.outside(0, 0), a -> x.lift(0, a), NONE);
        CHECK.allSame("both", Made.outside(0, 0), a -> x.lift(a, a), NONE);
        DrillCount full = Made.full();
        CHECK.allSame("one, five there", Made.outside(0, 4), a -> full.lift(a, 4), NONE);
        CHECK.allSame("other, five there", Made.outside(0, 4), a -> full.lift(4, a), NONE);
        CHECK.same("lift(4, 4)", full.lift(4, 4), 40);
        CHECK.same("lift(0, 4)", full.lift(0, 4), 40);
    }

    @Edge(promise = 25, words = "LIFT of two axes (or of one with itself): how many, were both OPEN.")
    private static void liftOfTwoOrOfOne() {
        DrillCount x = Made.axes(2, 2, 2, 2, 2);
        for (int d = 0; d < 5; d++) {
            x.document(50);
            x.number(d, d, 1);
            x.range(d, 1, 1);
        }
        for (int one = 0; one < 5; one++) {
            for (int other = 0; other < 5; other++) {
                CHECK.same("all miss by four", x.lift(one, other), 0);
            }
        }
        x.open(0);
        x.open(1);
        CHECK.same("lift(2, 3): 4 is left", x.lift(2, 3), 1);
        CHECK.same("lift(2, 2)", x.lift(2, 2), 0);
        x.open(2);
        CHECK.same("lift(3, 3): 4 is left", x.lift(3, 3), 1);
        CHECK.same("lift(3, 4): none is in the way", x.lift(3, 4), 5);
        CHECK.same("lift(4, 3)", x.lift(4, 3), 5);
        CHECK.same("lift(0, 3), one is open", x.lift(0, 3), 1);
    }

    // ---- 26: sums

    @Edge(promise = 26, words = "NONE: others")
    private static void sumsOfNoCategory() {
        DrillCount x = Made.axes(0);
        DrillCount full = Made.full();
        for (int what = 0; what <= 1; what++) {
            int asked = what;
            CHECK.same("none there", x.sums(0, what), NONE);
            CHECK.allSame("category", Made.outside(0, 39), c -> full.sums(c, asked), NONE);
        }
        CHECK.same("the 40th", full.sums(39, 0), 1);
    }

    @Edge(promise = 26, words = "What 0: OWN, 1: TWICE; NONE: others")
    private static void sumsOfNoSuchWhat() {
        DrillCount x = Made.full();
        for (int category : new int[] {0, 39}) {
            CHECK.allSame("what", Made.outside(0, 1), w -> x.sums(category, w), NONE);
        }
        CHECK.same("what 0", x.sums(0, 0), 1);
        CHECK.same("what 1", x.sums(0, 1), 0);
    }

    @Edge(promise = 26, words = "OWN of a CATEGORY: how many of those that SHOWN counts are TAGGED with it itself.")
    private static void ownFromNoneToForty() {
        for (int kind = 0; kind <= 1; kind++) {
            DrillCount x = one(kind, 2, 40);
            x.move(0, 1);
            CHECK.same("all forty", x.sums(0, 0), 40);
            CHECK.same("none by itself", x.sums(1, 0), 0);
            CHECK.same("though it is shown", x.shown(1), 40);
            x.tag(39, 1, true);
            CHECK.same("one by itself", x.sums(1, 0), 1);
            x.missing(0, true);
            CHECK.same("ANY: lifted, ALL: no hit", x.sums(0, 0), kind == 0 ? 40 : 0);
        }
    }

    @Edge(promise = 26, words = "TWICE: what SHOWN of those right below it and its OWN make together, more than its SHOWN.")
    private static void twiceFromNoneToManyTimes() {
        DrillCount x = Made.axes(0);
        Made.flat(x, 0, 1);
        CHECK.same("nothing there", x.sums(0, 1), 0);
        Made.documents(x, 9);
        for (int c = 1; c < 40; c++) {
            x.category(0, 0);
            for (int d = 0; d < 9; d++) {
                x.tag(d, c, true);
            }
        }
        CHECK.same("nine in 39 branches each", x.sums(0, 1), 9 * 38);
        x.tag(0, 0, true);
        CHECK.same("one in it itself, too", x.sums(0, 1), 9 * 38 + 1);
        CHECK.same("a leaf", x.sums(39, 1), 0);
        x.remove(8);
        CHECK.same("one less", x.sums(0, 1), 8 * 38 + 1);
    }

    @Edge(promise = 26, words = "those right below it and its OWN")
    private static void twiceAsksRightBelowOnly() {
        DrillCount x = Made.axes(0);
        Made.chain(x, 0, 6);
        Made.document(x, 50, 5);
        for (int c = 0; c < 6; c++) {
            CHECK.same("one branch only", x.sums(c, 1), 0);
        }
        x.tag(0, 4, true);
        CHECK.same("twice at level 4", x.sums(4, 1), 1);
        CHECK.same("not above it", x.sums(3, 1), 0);
        CHECK.same("nor below it", x.sums(5, 1), 0);
    }

    @Edge(promise = 26, words = "those right below it and its OWN")
    private static void twiceWithTheFirstAndTheLastBelow() {
        DrillCount x = Made.axes(0);
        Made.flat(x, 0, 40);
        Made.document(x, 50, 0, 39);
        x.move(0, 20);
        CHECK.same("in 0 only", x.sums(20, 1), 0);
        x.move(39, 20);
        CHECK.same("in 0 and 39", x.sums(20, 1), 1);
        CHECK.same("none of its own", x.sums(20, 0), 0);
    }

    // ---- 27: sets

    @Edge(promise = 27, words = "0: others")
    private static void setsOfNoAxis() {
        DrillCount x = new DrillCount();
        DrillCount full = Made.full();
        for (int what = 0; what <= 1; what++) {
            int asked = what;
            CHECK.same("none there", x.sets(0, what), 0);
            CHECK.allSame("axis", Made.outside(0, 4), a -> full.sets(a, asked), 0);
            CHECK.same("NUMBER", full.sets(2, what), 0);
            CHECK.same("NUMBER", full.sets(4, what), 0);
        }
        CHECK.same("axis 3", full.sets(3, 1), ((1L << 22) - 1) << 18);
    }

    @Edge(promise = 27, words = "What 0: EMPTY, 1: LEAVES; 0: others")
    private static void setsOfNoSuchWhat() {
        DrillCount x = one(0, 40, 0);
        CHECK.allSame("what", Made.outside(0, 1), w -> x.sets(0, w), 0);
        CHECK.same("what 0", x.sets(0, 0), FORTY);
        CHECK.same("what 1", x.sets(0, 1), FORTY);
    }

    @Edge(promise = 27, words = "EMPTY of an axis: CATEGORIES of which SHOWN is 0 (bits).")
    private static void emptyFromNoneToAllForty() {
        for (int kind = 0; kind <= 1; kind++) {
            DrillCount none = Made.axes(kind);
            CHECK.same("no category", none.sets(0, 0), 0);
            DrillCount x = one(kind, 40, 0);
            CHECK.same("all forty", x.sets(0, 0), FORTY);
            x.document(50);
            for (int c = 39; c >= 0; c--) {
                x.tag(0, c, true);
                CHECK.same("those below " + c, x.sets(0, 0), (1L << c) - 1);
            }
            x.missing(0, true);
            CHECK.same("ANY: lifted, ALL: no hit", x.sets(0, 0), kind == 0 ? 0 : FORTY);
        }
    }

    @Edge(promise = 27, words = "LEAVES: those with none below (bits).")
    private static void leavesFromOneToForty() {
        DrillCount none = Made.axes(1);
        CHECK.same("no category", none.sets(0, 1), 0);
        DrillCount x = Made.axes(0, 1);
        Made.flat(x, 0, 1);
        CHECK.same("one", x.sets(0, 1), 1);
        Made.flat(x, 0, 39);
        CHECK.same("all forty", x.sets(0, 1), FORTY);
        CHECK.same("none of the other axis", x.sets(1, 1), 0);
        x.move(39, 0);
        CHECK.same("0 is none", x.sets(0, 1), FORTY - 1);
        x.move(0, 38);
        CHECK.same("nor 38", x.sets(0, 1), FORTY - 1 - (1L << 38));
        x.move(39, NONE);
        CHECK.same("0 is one again", x.sets(0, 1), FORTY - (1L << 38));
        DrillCount full = Made.full();
        CHECK.same("of a chain the last", full.sets(0, 1), 1L << 5);
    }

    // ---- 39: miss

    @Edge(promise = 39, words = "MISS, 0 to 5; NONE: others")
    private static void missZeroToFive() {
        DrillCount x = new DrillCount();
        CHECK.allSame("n, on an empty one", Made.outside(0, 5), x::miss, NONE);
        for (int n = 0; n <= 5; n++) {
            CHECK.same("miss(" + n + ") of none", x.miss(n), 0);
        }
        DrillCount full = Made.full();
        CHECK.allSame("n, on a full one", Made.outside(0, 5), full::miss, NONE);
        CHECK.same("miss(0)", full.miss(0), 40);
        CHECK.same("miss(5)", full.miss(5), 0);
    }

    @Edge(promise = 39, words = "MISS n: how many DOCUMENTS PASS all but just n axes.")
    private static void missByNoneToAllFive() {
        DrillCount x = Made.axes(2, 2, 2, 2, 2);
        for (int d = 0; d <= 5; d++) {
            x.document(50);
            for (int axis = 0; axis < d; axis++) {
                x.number(d, axis, 1);
            }
        }
        for (int axis = 0; axis < 5; axis++) {
            x.range(axis, 1, 1);
        }
        for (int n = 0; n <= 5; n++) {
            CHECK.same("miss(" + n + ")", x.miss(n), 1);
        }
        x.remove(0);
        CHECK.same("the one that missed all is away", x.miss(5), 0);
        x.remove(5);
        CHECK.same("the hit is away", x.miss(0), 0);
    }

    @Edge(promise = 39, words = "MISS n: how many DOCUMENTS PASS all but just n axes.")
    private static void missWithoutAxesAndAllForty() {
        DrillCount x = new DrillCount();
        Made.documents(x, 40);
        CHECK.same("without an axis all pass all", x.miss(0), 40);
        CHECK.same("none misses one", x.miss(1), 0);
        for (int axis = 0; axis < 5; axis++) {
            x.axis(2);
            x.range(axis, 0, 0);
            CHECK.same("all miss " + (axis + 1), x.miss(axis + 1), 40);
            CHECK.same("none just " + axis, x.miss(axis), 0);
        }
    }
}
