import java.io.IOException;

/** Promises 1 to 9, each boundary that the document names by a test of its own. */
public final class EdgeBuildTest {

    private static final int NONE = DrillCount.NONE;
    private static final Check CHECK = new Check();

    public static void main(String[] args) throws IOException {
        Edges.run(EdgeBuildTest.class, CHECK, 1, 2, 3, 4, 5, 6, 7, 8, 9);
    }

    // ---- 1: a new object

    @Edge(promise = 1, words = "Nothing.")
    private static void newOneCountsNothing() {
        DrillCount x = new DrillCount();
        for (int what = 0; what <= 8; what++) {
            CHECK.same("count(" + what + ")", x.count(what), 0);
        }
        CHECK.same("miss(0)", x.miss(0), 0);
        CHECK.same("miss(5)", x.miss(5), 0);
        CHECK.same("sets(0, 0)", x.sets(0, 0), 0);
        CHECK.same("sets(0, 1)", x.sets(0, 1), 0);
    }

    @Edge(promise = 1, words = "Nothing.")
    private static void newOneHasNoneOfAnything() {
        DrillCount x = new DrillCount();
        CHECK.same("of(0, 0)", x.of(0, 0), NONE);
        CHECK.same("doc(0, 0)", x.doc(0, 0), NONE);
        CHECK.same("doc(0, 1)", x.doc(0, 1), NONE);
        CHECK.no("has(0, 0)", x.has(0, 0));
        CHECK.noSuch("numberOf(0, 0)", () -> x.numberOf(0, 0));
        CHECK.same("hit(0)", x.hit(0), NONE);
        CHECK.same("near(0)", x.near(0), NONE);
        CHECK.same("shown(0)", x.shown(0), NONE);
        CHECK.same("shownMissing(0)", x.shownMissing(0), NONE);
        CHECK.same("click(0, 0)", x.click(0, 0), NONE);
        CHECK.same("lift(0, 0)", x.lift(0, 0), NONE);
        CHECK.same("sums(0, 0)", x.sums(0, 0), NONE);
        CHECK.noSuch("bin(0, 1, 0, 0)", () -> x.bin(0, 1, 0, 0));
        CHECK.same("bins(0, 1)", x.bins(0, 1), NONE);
        CHECK.same("even(0, 1)", x.even(0, 1), NONE);
        CHECK.same("top(0, 0, 0)", x.top(0, 0, 0), NONE);
        CHECK.same("read(0, 1)", x.read(0, 1), NONE);
        CHECK.same("path(0, 0)", x.path(0, 0), NONE);
        CHECK.same("split()", x.split(), NONE);
        CHECK.same("cover(0, NONE)", x.cover(0, NONE), NONE);
        CHECK.same("both(0, 0)", x.both(0, 0), NONE);
        CHECK.same("alike(0, 1)", x.alike(0, 1), NONE);
        CHECK.same("nearest(0)", x.nearest(0), NONE);
        CHECK.same("most()", x.most(), NONE);
        CHECK.noSuch("middle(0, 0)", () -> x.middle(0, 0));
    }

    @Edge(promise = 1, words = "Nothing.")
    private static void newOneLetsNothingBeDone() {
        DrillCount x = new DrillCount();
        CHECK.same("category(0, NONE)", x.category(0, NONE), NONE);
        CHECK.no("move(0, NONE)", x.move(0, NONE));
        CHECK.no("tag(0, 0, true)", x.tag(0, 0, true));
        CHECK.no("number(0, 0, 0)", x.number(0, 0, 0));
        CHECK.no("unnumber(0, 0)", x.unnumber(0, 0));
        CHECK.no("remove(0)", x.remove(0));
        CHECK.no("select(0, true)", x.select(0, true));
        CHECK.same("range(0, 0, 0)", x.range(0, 0, 0), NONE);
        CHECK.no("drop(0, 0)", x.drop(0, 0));
        CHECK.no("missing(0, true)", x.missing(0, true));
        CHECK.no("open(0)", x.open(0));
        CHECK.no("back()", x.back());
        for (int what = 0; what <= 8; what++) {
            CHECK.same("count(" + what + ") stays", x.count(what), 0);
        }
    }

    @Edge(promise = 1, words = "an object is one collection of documents")
    private static void objectsStandApart() {
        DrillCount x = new DrillCount();
        DrillCount full = Made.full();
        full.select(0, true);
        for (int what = 0; what <= 8; what++) {
            CHECK.same("count(" + what + ") beside a full one", x.count(what), 0);
        }
        CHECK.same("axis(2) beside a full one", x.axis(2), 0);
        CHECK.same("document(0) beside a full one", x.document(0), 0);
        CHECK.same("the full one stays", full.count(2), 40);
        CHECK.same("its hits", full.count(4), 6);
    }

    @Edge(promise = 1, words = "`NONE = -1`: None.")
    private static void noneIsMinusOne() {
        CHECK.same("NONE", DrillCount.NONE, -1);
    }

    // ---- 2: axis

    @Edge(promise = 2, words = "KIND 0 ANY (a tree), 1 ALL (a tree), 2 NUMBER")
    private static void kindsZeroToTwoAreTaken() {
        for (int kind = 0; kind <= 2; kind++) {
            DrillCount x = new DrillCount();
            CHECK.same("axis(" + kind + ")", x.axis(kind), 0);
            CHECK.same("a category on it", x.category(0, NONE), kind == 2 ? NONE : 0);
            CHECK.same("a range on it", x.range(0, 1, 1), kind == 2 ? 0 : NONE);
        }
    }

    @Edge(promise = 2, words = "NONE: others")
    private static void otherKindsAreRefused() {
        DrillCount x = new DrillCount();
        CHECK.allSame("axis, on an empty one", Made.outside(0, 2), x::axis, NONE);
        CHECK.same("count(0)", x.count(0), 0);
        for (int a = 0; a < 4; a++) {
            CHECK.same("a kind that is taken", x.axis(2), a);
        }
        CHECK.allSame("axis, with four", Made.outside(0, 2), x::axis, NONE);
        CHECK.same("the fifth", x.axis(0), 4);
        CHECK.allSame("axis, with five", Made.outside(0, 2), x::axis, NONE);
        CHECK.same("count(0)", x.count(0), 5);
    }

    @Edge(promise = 2, words = "five there are")
    private static void fiveAxesAndNoSixth() {
        for (int kind = 0; kind <= 2; kind++) {
            DrillCount x = Made.axes(0, 1, 2, 0);
            CHECK.same("the fifth", x.axis(kind), 4);
            CHECK.same("a sixth of kind 0", x.axis(0), NONE);
            CHECK.same("a sixth of kind 1", x.axis(1), NONE);
            CHECK.same("a sixth of kind 2", x.axis(2), NONE);
            CHECK.same("count(0)", x.count(0), 5);
            CHECK.same("the fifth has its kind", x.bins(4, 1), kind == 2 ? 0 : NONE);
        }
    }

    @Edge(promise = 2, words = "AXES: 0 to 4, as told")
    private static void axesAreNumberedAsTold() {
        DrillCount x = new DrillCount();
        for (int a = 0; a < 5; a++) {
            x.axis(3);
            CHECK.same("the next, one refused ahead of it", x.axis(a % 3), a);
            CHECK.same("it is known", x.near(a), 0);
            CHECK.same("the next is not yet", x.near(a + 1), NONE);
        }
    }

    @Edge(promise = 2, words = "An axis on which nothing is SELECTED is OPEN.")
    private static void newAxisIsOpen() {
        DrillCount x = Made.axes(0);
        Made.flat(x, 0, 1);
        Made.documents(x, 2);
        x.tag(1, 0, true);
        x.select(0, true);
        for (int a = 1; a < 5; a++) {
            x.axis(a % 3);
            CHECK.same("hits stay", x.count(4), 1);
            CHECK.same("axes that are not open", x.count(7), 1);
            CHECK.same("it is passed", x.doc(0, 3), (1 << a + 1) - 2);
        }
    }

    // ---- 3: category

    @Edge(promise = 3, words = "below one (NONE: at the top)")
    private static void categoryAtTheTopAndBelow() {
        DrillCount x = Made.axes(0);
        CHECK.same("category(0, NONE)", x.category(0, NONE), 0);
        CHECK.same("category(0, 0)", x.category(0, 0), 1);
        CHECK.same("the first is below none", x.of(0, 1), NONE);
        CHECK.same("its level", x.of(0, 2), 0);
        CHECK.same("the second is below the first", x.of(1, 1), 0);
        CHECK.same("its level", x.of(1, 2), 1);
    }

    @Edge(promise = 3, words = "NONE: others")
    private static void categoryOfNoAxis() {
        DrillCount x = new DrillCount();
        CHECK.same("axis 0, none there", x.category(0, NONE), NONE);
        x.axis(0);
        CHECK.allSame("axis, one there", Made.outside(0, 0), a -> x.category(a, NONE), NONE);
        CHECK.same("axis 0", x.category(0, NONE), 0);
        DrillCount y = Made.axes(0, 0, 0, 0, 1);
        CHECK.allSame("axis, five there", Made.outside(0, 4), a -> y.category(a, NONE), NONE);
        CHECK.same("count(1)", y.count(1), 0);
        CHECK.same("axis 4", y.category(4, NONE), 0);
    }

    @Edge(promise = 3, words = "each on an axis of KIND 0 or 1")
    private static void categoryOfEachKind() {
        DrillCount x = Made.axes(0, 1, 2);
        CHECK.same("on NUMBER", x.category(2, NONE), NONE);
        CHECK.same("on ANY", x.category(0, NONE), 0);
        CHECK.same("on ALL", x.category(1, NONE), 1);
        CHECK.same("on NUMBER, below one of ANY", x.category(2, 0), NONE);
        CHECK.same("count(1)", x.count(1), 2);
    }

    @Edge(promise = 3, words = "NONE: others")
    private static void categoryBelowNoCategory() {
        DrillCount x = Made.axes(0);
        CHECK.allSame("below, none there", Made.outside(-1, -1), b -> x.category(0, b), NONE);
        x.category(0, NONE);
        x.category(0, NONE);
        CHECK.allSame("below, two there", Made.outside(-1, 1), b -> x.category(0, b), NONE);
        CHECK.same("count(1)", x.count(1), 2);
        CHECK.same("below the last", x.category(0, 1), 2);
    }

    @Edge(promise = 3, words = "of another axis")
    private static void categoryBelowOneOfAnotherAxis() {
        DrillCount x = Made.axes(0, 0, 1);
        Made.flat(x, 0, 1);
        Made.flat(x, 1, 1);
        Made.flat(x, 2, 1);
        for (int axis = 0; axis < 3; axis++) {
            for (int below = 0; below < 3; below++) {
                if (axis != below) {
                    CHECK.same("of another axis", x.category(axis, below), NONE);
                }
            }
        }
        CHECK.same("count(1)", x.count(1), 3);
        CHECK.same("of the same axis", x.category(2, 2), 3);
    }

    @Edge(promise = 3, words = "of LEVEL 6")
    private static void levelFiveAndNotSix() {
        for (int kind = 0; kind <= 1; kind++) {
            DrillCount x = Made.axes(kind);
            Made.chain(x, 0, 5);
            CHECK.same("of level 5", x.category(0, 4), 5);
            CHECK.same("its level", x.of(5, 2), 5);
            CHECK.same("of level 6", x.category(0, 5), NONE);
            CHECK.same("count(1)", x.count(1), 6);
            CHECK.same("nothing is below it", x.of(5, 4), 0);
            CHECK.same("another one of level 5", x.category(0, 4), 6);
            x.move(5, 3);
            CHECK.same("below it, when it is at level 4", x.category(0, 5), 7);
            CHECK.same("its level", x.of(7, 2), 5);
        }
    }

    @Edge(promise = 3, words = "40 there are")
    private static void fortyCategoriesAndNoMore() {
        DrillCount x = Made.axes(0, 1);
        Made.flat(x, 0, 20);
        Made.flat(x, 1, 19);
        CHECK.same("the 40th", x.category(1, NONE), 39);
        CHECK.same("a 41st on ALL", x.category(1, NONE), NONE);
        CHECK.same("a 41st on ANY", x.category(0, NONE), NONE);
        CHECK.same("a 41st below one", x.category(0, 0), NONE);
        CHECK.same("a 41st below the 40th", x.category(1, 39), NONE);
        CHECK.same("count(1)", x.count(1), 40);
        CHECK.same("below 39", x.of(39, 4), 0);
        DrillCount y = Made.axes(0);
        Made.chain(y, 0, 6);
        for (int c = 6; c < 39; c++) {
            y.category(0, c % 5);
        }
        CHECK.same("the 40th, below one", y.category(0, 4), 39);
        CHECK.same("a 41st, below one", y.category(0, 4), NONE);
        CHECK.same("below 0", y.of(0, 4), 39);
    }

    @Edge(promise = 3, words = "CATEGORIES: 40 at most, numbered as told")
    private static void refusedCategoriesTakeNoNumber() {
        DrillCount x = Made.axes(0, 2);
        x.category(1, NONE);
        x.category(0, 5);
        CHECK.same("the first", x.category(0, NONE), 0);
        x.category(0, -2);
        CHECK.same("the second", x.category(0, NONE), 1);
    }

    // ---- 4: move

    @Edge(promise = 4, words = "false: others")
    private static void moveOfNoCategory() {
        DrillCount x = Made.axes(0);
        CHECK.no("move(0, NONE), none there", x.move(0, NONE));
        Made.flat(x, 0, 3);
        CHECK.allNo("category, to the top", Made.outside(0, 2), c -> x.move(c, NONE));
        CHECK.allNo("category, below 0", Made.outside(0, 2), c -> x.move(c, 0));
        CHECK.yes("the last", x.move(2, 0));
        DrillCount y = Made.full();
        CHECK.allNo("category, forty there", Made.outside(0, 39), c -> y.move(c, NONE));
        CHECK.yes("the 40th", y.move(39, 38));
        CHECK.same("the 40th is below", y.of(39, 1), 38);
    }

    @Edge(promise = 4, words = "false: others")
    private static void moveBelowNoCategory() {
        DrillCount x = Made.axes(0);
        Made.flat(x, 0, 3);
        CHECK.allNo("below", Made.outside(-1, 2), b -> x.move(0, b));
        CHECK.same("it stays", x.of(0, 1), NONE);
        CHECK.yes("below the last", x.move(0, 2));
        CHECK.allNo("below, again", Made.outside(-1, 2), b -> x.move(0, b));
        CHECK.same("it stays", x.of(0, 1), 2);
        DrillCount y = Made.full();
        CHECK.allNo("below, forty there", Made.outside(-1, 39), b -> y.move(18, b));
        CHECK.yes("below the 40th", y.move(18, 39));
    }

    @Edge(promise = 4, words = "another one of its axis")
    private static void moveToAnotherAxis() {
        DrillCount x = Made.axes(0, 0, 1);
        Made.flat(x, 0, 1);
        Made.flat(x, 1, 1);
        Made.flat(x, 2, 2);
        CHECK.no("of the same kind", x.move(0, 1));
        CHECK.no("of another kind", x.move(0, 2));
        CHECK.no("and back", x.move(2, 0));
        for (int c = 0; c < 4; c++) {
            CHECK.same("it stays at the top", x.of(c, 1), NONE);
            CHECK.same("nothing is below it", x.of(c, 4), 0);
        }
        CHECK.yes("of its axis", x.move(2, 3));
    }

    @Edge(promise = 4, words = "(NONE: to the top)")
    private static void moveToTheTop() {
        DrillCount x = Made.axes(1);
        Made.chain(x, 0, 6);
        CHECK.yes("from level 5", x.move(5, NONE));
        CHECK.same("its level", x.of(5, 2), 0);
        CHECK.yes("from the top", x.move(5, NONE));
        CHECK.same("its level", x.of(5, 2), 0);
        CHECK.yes("the one with all the others", x.move(0, NONE));
        CHECK.same("below 0", x.of(0, 4), 4);
    }

    @Edge(promise = 4, words = "it itself or one BELOW it")
    private static void moveBelowItself() {
        DrillCount x = Made.axes(0);
        Made.flat(x, 0, 2);
        CHECK.no("itself, at the top", x.move(0, 0));
        CHECK.no("the last, itself", x.move(1, 1));
        x.move(1, 0);
        CHECK.no("itself, below one", x.move(1, 1));
        CHECK.same("its level", x.of(1, 2), 1);
        CHECK.same("below 0", x.of(0, 4), 1);
    }

    @Edge(promise = 4, words = "it itself or one BELOW it")
    private static void moveBelowOneBelowIt() {
        DrillCount x = Made.axes(0);
        Made.chain(x, 0, 3);
        Made.flat(x, 0, 1);
        CHECK.no("right below it", x.move(0, 1));
        CHECK.no("two below it", x.move(0, 2));
        CHECK.no("right below it, not at the top", x.move(1, 2));
        for (int c = 0; c < 3; c++) {
            CHECK.same("it stays", x.of(c, 1), c - 1);
            CHECK.same("what is below stays", x.of(c, 4), 2 - c);
        }
        CHECK.yes("one above it", x.move(2, 0));
        CHECK.yes("one beside it", x.move(1, 2));
        CHECK.yes("one of another tree", x.move(0, 3));
        CHECK.no("now one below it", x.move(3, 1));
        CHECK.same("level of the lowest", x.of(1, 2), 3);
    }

    @Edge(promise = 4, words = "one would be of LEVEL 6")
    private static void moveOneAloneToLevelFive() {
        DrillCount x = Made.axes(0);
        Made.chain(x, 0, 6);
        Made.flat(x, 0, 1);
        CHECK.no("to level 6", x.move(6, 5));
        CHECK.same("it stays", x.of(6, 2), 0);
        CHECK.same("below 5", x.of(5, 4), 0);
        CHECK.yes("to level 5", x.move(6, 4));
        CHECK.same("its level", x.of(6, 2), 5);
        CHECK.no("from level 5 to level 6", x.move(6, 5));
        CHECK.same("its level", x.of(6, 2), 5);
        CHECK.yes("from level 5 to level 5", x.move(6, 4));
    }

    @Edge(promise = 4, words = "one would be of LEVEL 6")
    private static void moveTheDeepestToLevelFive() {
        for (int deep = 1; deep <= 6; deep++) {
            DrillCount x = Made.axes(0);
            Made.chain(x, 0, 6);
            Made.chain(x, 0, deep);
            int last = 5 + deep;
            if (deep < 6) {
                CHECK.no("the deepest to level 6", x.move(6, 6 - deep));
                CHECK.same("it stays", x.of(last, 2), deep - 1);
                CHECK.yes("the deepest to level 5", x.move(6, 5 - deep));
                CHECK.same("it is there", x.of(last, 2), 5);
                CHECK.no("one more", x.move(6, 6 - deep));
                CHECK.same("below 0", x.of(0, 4), 5 + deep);
            } else {
                CHECK.no("six levels below one at the top", x.move(6, 0));
                CHECK.same("it stays", x.of(last, 2), 5);
            }
        }
    }

    @Edge(promise = 4, words = "with all BELOW it")
    private static void moveTakesAllBelowAlong() {
        DrillCount x = Made.axes(0);
        Made.chain(x, 0, 5);
        x.category(0, 1);
        Made.flat(x, 0, 1);
        Made.document(x, 1, 4);
        CHECK.yes("move(1, 6)", x.move(1, 6));
        int[] levels = {0, 1, 2, 3, 4, 2, 0};
        int[] below = {0, 4, 2, 1, 0, 0, 5};
        for (int c = 0; c < levels.length; c++) {
            CHECK.same("level of " + c, x.of(c, 2), levels[c]);
            CHECK.same("below " + c, x.of(c, 4), below[c]);
        }
        CHECK.no("has(0, 0)", x.has(0, 0));
        CHECK.yes("has(0, 6)", x.has(0, 6));
        CHECK.yes("has(0, 1)", x.has(0, 1));
    }

    @Edge(promise = 4, words = "one would be of LEVEL 6")
    private static void moveWithTheFirstAsTheDeepest() {
        DrillCount x = Made.axes(0);
        Made.flat(x, 0, 1);
        Made.chain(x, 0, 5);
        Made.flat(x, 0, 1);
        CHECK.yes("0 below 5", x.move(0, 5));
        CHECK.same("level of 0", x.of(0, 2), 5);
        CHECK.no("0 would be of level 6", x.move(1, 6));
        CHECK.same("level of 0 stays", x.of(0, 2), 5);
        CHECK.yes("0 comes to level 5", x.move(2, 6));
        CHECK.same("level of 0", x.of(0, 2), 5);
    }

    @Edge(promise = 4, words = "with all BELOW it")
    private static void moveChangesWhoPasses() {
        for (int kind = 0; kind <= 1; kind++) {
            DrillCount x = Made.axes(kind);
            Made.chain(x, 0, 6);
            Made.flat(x, 0, 1);
            Made.document(x, 1, 5);
            x.select(6, true);
            CHECK.same("not yet", x.count(4), 0);
            CHECK.yes("move(4, 6)", x.move(4, 6));
            CHECK.same("it has 6 now", x.count(4), 1);
            CHECK.yes("move(5, NONE)", x.move(5, NONE));
            CHECK.same("no more", x.count(4), 0);
        }
    }

    @Edge(promise = 4, words = "comes below another one of its axis")
    private static void moveToWhereItIs() {
        DrillCount x = Made.axes(0);
        Made.chain(x, 0, 6);
        Made.document(x, 1, 5);
        for (int c = 0; c < 6; c++) {
            CHECK.yes("move to where it is", x.move(c, c - 1));
        }
        CHECK.same("below 0", x.of(0, 4), 5);
        CHECK.same("level of 5", x.of(5, 2), 5);
        CHECK.yes("has(0, 0)", x.has(0, 0));
        CHECK.same("no step", x.count(8), 0);
    }

    @Edge(promise = 4, words = "one would be of LEVEL 6")
    private static void moveInAFullTree() {
        DrillCount x = Made.axes(0);
        Made.chain(x, 0, 6);
        for (int c = 6; c < 40; c++) {
            x.category(0, 0);
        }
        CHECK.yes("the 40th to level 5", x.move(39, 4));
        CHECK.no("the 39th to level 6", x.move(38, 39));
        CHECK.same("below 0", x.of(0, 4), 39);
        CHECK.same("below 4", x.of(4, 4), 2);
        CHECK.no("below itself", x.move(0, 39));
        CHECK.yes("one with levels, a level up", x.move(1, NONE));
        CHECK.same("below 0", x.of(0, 4), 33);
        CHECK.same("below 1", x.of(1, 4), 5);
        CHECK.yes("and all others below its deepest but one", x.move(0, 3));
        CHECK.same("below 1", x.of(1, 4), 39);
    }

    // ---- 5: document

    @Edge(promise = 5, words = "SCORE, 0 to 99")
    private static void scoresZeroToNinetyNine() {
        DrillCount x = new DrillCount();
        CHECK.same("score -1", x.document(-1), NONE);
        CHECK.same("score 0", x.document(0), 0);
        CHECK.same("score 100", x.document(100), NONE);
        CHECK.same("score 99", x.document(99), 1);
        CHECK.same("its score", x.doc(0, 0), 0);
        CHECK.same("its score", x.doc(1, 0), 99);
    }

    @Edge(promise = 5, words = "NONE: others")
    private static void otherScoresAreRefused() {
        DrillCount x = new DrillCount();
        CHECK.allSame("score, on an empty one", Made.outside(0, 99), x::document, NONE);
        CHECK.same("count(2)", x.count(2), 0);
        Made.documents(x, 39);
        CHECK.allSame("score, with 39", Made.outside(0, 99), x::document, NONE);
        CHECK.same("count(2)", x.count(2), 39);
        CHECK.same("count(3)", x.count(3), 39);
        CHECK.same("the 40th", x.document(50), 39);
    }

    @Edge(promise = 5, words = "40 have been")
    private static void fortyDocumentsAndNoMore() {
        DrillCount x = new DrillCount();
        Made.documents(x, 39);
        CHECK.same("the 40th", x.document(50), 39);
        CHECK.same("a 41st", x.document(50), NONE);
        CHECK.same("a 41st, score 0", x.document(0), NONE);
        CHECK.same("a 41st, score 99", x.document(99), NONE);
        CHECK.allSame("a 41st, no score", Made.outside(0, 99), x::document, NONE);
        CHECK.same("count(2)", x.count(2), 40);
        CHECK.same("count(3)", x.count(3), 40);
    }

    @Edge(promise = 5, words = "40 at most ever")
    private static void fortyEverThoughAllAreTakenAway() {
        DrillCount x = new DrillCount();
        for (int d = 0; d < 40; d++) {
            CHECK.same("the next", x.document(9), d);
            CHECK.yes("is taken away", x.remove(d));
        }
        CHECK.same("a 41st, none is there", x.document(9), NONE);
        CHECK.same("count(2)", x.count(2), 40);
        CHECK.same("count(3)", x.count(3), 0);
    }

    @Edge(promise = 5, words = "(its number does not come again)")
    private static void numbersDoNotComeAgain() {
        DrillCount x = new DrillCount();
        x.document(1);
        x.remove(0);
        x.document(100);
        CHECK.same("the next", x.document(1), 1);
        x.remove(1);
        CHECK.same("the next", x.document(1), 2);
        CHECK.same("0 is not there", x.doc(0, 1), 0);
    }

    @Edge(promise = 5, words = "MISSING on an axis, if it is TAGGED with none of it, has no number")
    private static void newDocumentIsMissingEverywhere() {
        DrillCount x = Made.axes(0, 1, 2);
        Made.flat(x, 0, 1);
        Made.flat(x, 1, 1);
        x.document(0);
        for (int axis = 0; axis < 3; axis++) {
            CHECK.same("shownMissing", x.shownMissing(axis), 1);
        }
        CHECK.no("has(0, 0)", x.has(0, 0));
        CHECK.noSuch("numberOf(0, 2)", () -> x.numberOf(0, 2));
    }

    // ---- 6: tag

    @Edge(promise = 6, words = "false: others")
    private static void tagOfNoDocument() {
        DrillCount x = Made.axes(0);
        Made.flat(x, 0, 2);
        CHECK.no("document 0, none there", x.tag(0, 0, true));
        Made.documents(x, 2);
        CHECK.allNo("document", Made.outside(0, 1), d -> x.tag(d, 0, true));
        CHECK.allNo("document, off", Made.outside(0, 1), d -> x.tag(d, 0, false));
        CHECK.same("shown(0)", x.shown(0), 0);
        CHECK.yes("the last", x.tag(1, 0, true));
        DrillCount y = Made.full();
        CHECK.allNo("document, forty there", Made.outside(0, 39), d -> y.tag(d, 0, true));
        CHECK.yes("the 40th", y.tag(39, 0, true));
        CHECK.same("shown(0)", y.shown(0), 7);
    }

    @Edge(promise = 6, words = "false: others")
    private static void tagWithNoCategory() {
        DrillCount x = Made.axes(0);
        Made.documents(x, 1);
        CHECK.no("category 0, none there", x.tag(0, 0, true));
        Made.flat(x, 0, 2);
        CHECK.allNo("category", Made.outside(0, 1), c -> x.tag(0, c, true));
        CHECK.allNo("category, off", Made.outside(0, 1), c -> x.tag(0, c, false));
        CHECK.same("it is missing there", x.shownMissing(0), 1);
        CHECK.yes("the last", x.tag(0, 1, true));
        DrillCount y = Made.full();
        CHECK.allNo("category, forty there", Made.outside(0, 39), c -> y.tag(0, c, true));
        CHECK.yes("the 40th", y.tag(0, 39, true));
        CHECK.yes("has(0, 39)", y.has(0, 39));
    }

    @Edge(promise = 6, words = "it is so already")
    private static void tagThatIsSoAlready() {
        DrillCount x = Made.axes(0);
        Made.flat(x, 0, 1);
        Made.documents(x, 1);
        CHECK.no("off, it is not", x.tag(0, 0, false));
        CHECK.yes("on", x.tag(0, 0, true));
        CHECK.no("on again", x.tag(0, 0, true));
        CHECK.same("shown once", x.shown(0), 1);
        CHECK.yes("off", x.tag(0, 0, false));
        CHECK.no("off again", x.tag(0, 0, false));
        CHECK.same("shown no more", x.shown(0), 0);
        CHECK.yes("on once more", x.tag(0, 0, true));
    }

    @Edge(promise = 6, words = "It HAS a CATEGORY, if it is TAGGED with it or with one BELOW it.")
    private static void tagIsNotHaving() {
        DrillCount x = Made.axes(0);
        Made.chain(x, 0, 6);
        Made.document(x, 1, 5);
        CHECK.no("it has 0, but is not tagged with it: off", x.tag(0, 0, false));
        CHECK.yes("it still has 0", x.has(0, 0));
        CHECK.yes("on", x.tag(0, 0, true));
        CHECK.yes("5 off", x.tag(0, 5, false));
        CHECK.yes("it has 0 by its own tag", x.has(0, 0));
        CHECK.no("it has 1 no more", x.has(0, 1));
    }

    @Edge(promise = 6, words = "it is not THERE")
    private static void tagOfOneTakenAway() {
        DrillCount x = Made.axes(0);
        Made.flat(x, 0, 2);
        Made.document(x, 1, 0);
        x.remove(0);
        CHECK.no("on", x.tag(0, 1, true));
        CHECK.no("on, it was so", x.tag(0, 0, true));
        CHECK.no("off, it was on", x.tag(0, 0, false));
        CHECK.no("off, it was off", x.tag(0, 1, false));
        CHECK.same("shown(0)", x.shown(0), 0);
    }

    @Edge(promise = 6, words = "A DOCUMENT is TAGGED with CATEGORIES (any)")
    private static void tagWithAllForty() {
        DrillCount x = Made.full();
        for (int c = 1; c < 40; c++) {
            CHECK.yes("tag(0, " + c + ", true)", x.tag(0, c, true));
        }
        for (int c = 0; c < 40; c++) {
            CHECK.no("again", x.tag(0, c, true));
            CHECK.yes("has(0, " + c + ")", x.has(0, c));
        }
        CHECK.same("alike(0, 39)", x.alike(0, 39), 1);
        CHECK.same("most()", x.most(), 0);
    }

    // ---- 7: number

    @Edge(promise = 7, words = "has a number, -999 to 999")
    private static void numbersWithinNineHundredNinetyNine() {
        DrillCount x = Made.axes(2);
        Made.documents(x, 1);
        CHECK.allNo("number, it has none", Made.outside(-999, 999), n -> x.number(0, 0, n));
        CHECK.noSuch("numberOf(0, 0)", () -> x.numberOf(0, 0));
        for (int number : new int[] {-999, 999, -1, 0, 1}) {
            CHECK.yes("number " + number, x.number(0, 0, number));
            CHECK.same("it is told", x.numberOf(0, 0), number);
        }
        CHECK.allNo("number, it has one", Made.outside(-999, 999), n -> x.number(0, 0, n));
        CHECK.same("it stays", x.numberOf(0, 0), 1);
    }

    @Edge(promise = 7, words = "on an axis of KIND 2, or none")
    private static void numberOnATree() {
        DrillCount x = Made.axes(0, 1, 2);
        Made.documents(x, 1);
        CHECK.no("on ANY", x.number(0, 0, 1));
        CHECK.no("on ALL", x.number(0, 1, 1));
        CHECK.yes("on NUMBER", x.number(0, 2, 1));
        CHECK.same("missing on ANY", x.shownMissing(0), 1);
        CHECK.same("missing on ALL", x.shownMissing(1), 1);
        CHECK.same("missing on NUMBER", x.shownMissing(2), 0);
    }

    @Edge(promise = 7, words = "false: others")
    private static void numberOnNoAxis() {
        DrillCount x = new DrillCount();
        Made.documents(x, 1);
        CHECK.no("axis 0, none there", x.number(0, 0, 1));
        x.axis(2);
        CHECK.allNo("axis", Made.outside(0, 0), a -> x.number(0, a, 1));
        CHECK.yes("axis 0", x.number(0, 0, 1));
        DrillCount y = Made.axes(2, 2, 2, 2, 2);
        Made.documents(y, 1);
        CHECK.allNo("axis, five there", Made.outside(0, 4), a -> y.number(0, a, 1));
        CHECK.yes("axis 4", y.number(0, 4, 1));
        CHECK.noSuch("numberOf(0, 3)", () -> y.numberOf(0, 3));
    }

    @Edge(promise = 7, words = "false: others")
    private static void numberOfNoDocument() {
        DrillCount x = Made.axes(2);
        CHECK.no("document 0, none there", x.number(0, 0, 1));
        Made.documents(x, 2);
        CHECK.allNo("document", Made.outside(0, 1), d -> x.number(d, 0, 1));
        CHECK.yes("the last", x.number(1, 0, 1));
        DrillCount y = Made.full();
        CHECK.allNo("document, forty there", Made.outside(0, 39), d -> y.number(d, 2, 1));
        CHECK.yes("the 40th", y.number(39, 2, 1));
        CHECK.same("missing on 2", y.shownMissing(2), 39);
    }

    @Edge(promise = 7, words = "it is not THERE")
    private static void numberOfOneTakenAway() {
        DrillCount x = Made.numbered(5, 6);
        x.remove(0);
        CHECK.no("another number", x.number(0, 0, 7));
        CHECK.no("the same number", x.number(0, 0, 5));
        CHECK.noSuch("numberOf(0, 0)", () -> x.numberOf(0, 0));
        CHECK.same("the least number", x.bin(0, 1, 0, 0), 6);
    }

    @Edge(promise = 7, words = "Its number on an axis: true")
    private static void numberInPlaceOfAnother() {
        DrillCount x = Made.numbered(5);
        CHECK.yes("the same again", x.number(0, 0, 5));
        CHECK.yes("another", x.number(0, 0, 6));
        CHECK.same("numberOf(0, 0)", x.numberOf(0, 0), 6);
        CHECK.same("one number is there", x.bin(0, 1, 0, 2), 1);
    }

    @Edge(promise = 7, words = "if its number is in any of the RANGES (ends, too)")
    private static void numberChangesWhoPasses() {
        DrillCount x = Made.numbered(4);
        x.range(0, 5, 6);
        int[] numbers = {4, 5, 6, 7};
        int[] hits = {0, 1, 1, 0};
        for (int i = 0; i < numbers.length; i++) {
            x.number(0, 0, numbers[i]);
            CHECK.same("hits with " + numbers[i], x.count(4), hits[i]);
        }
    }

    // ---- 8: unnumber

    @Edge(promise = 8, words = "it has none")
    private static void unnumberOneWithout() {
        DrillCount x = Made.axes(2, 2);
        Made.documents(x, 1);
        CHECK.no("it never had one", x.unnumber(0, 0));
        x.number(0, 0, 0);
        CHECK.no("it has one on another axis", x.unnumber(0, 1));
        CHECK.yes("number 0 is one", x.unnumber(0, 0));
        CHECK.no("again", x.unnumber(0, 0));
        x.number(0, 0, -1);
        CHECK.yes("number -1 is one", x.unnumber(0, 0));
        CHECK.noSuch("numberOf(0, 0)", () -> x.numberOf(0, 0));
    }

    @Edge(promise = 8, words = "false: others")
    private static void unnumberOnNoAxis() {
        DrillCount x = new DrillCount();
        Made.documents(x, 1);
        CHECK.no("axis 0, none there", x.unnumber(0, 0));
        DrillCount y = Made.axes(0, 1, 2, 2, 2);
        Made.flat(y, 0, 1);
        Made.flat(y, 1, 1);
        Made.document(y, 1, 0, 1);
        y.number(0, 4, 3);
        CHECK.allNo("axis", Made.outside(0, 4), a -> y.unnumber(0, a));
        CHECK.no("on ANY", y.unnumber(0, 0));
        CHECK.no("on ALL", y.unnumber(0, 1));
        CHECK.yes("it still has its category", y.has(0, 0));
        CHECK.same("numberOf(0, 4)", y.numberOf(0, 4), 3);
        CHECK.yes("axis 4", y.unnumber(0, 4));
    }

    @Edge(promise = 8, words = "false: others")
    private static void unnumberNoDocument() {
        DrillCount x = Made.axes(2);
        CHECK.no("document 0, none there", x.unnumber(0, 0));
        DrillCount y = Made.full();
        CHECK.allNo("document", Made.outside(0, 39), d -> y.unnumber(d, 4));
        CHECK.same("missing on 4", y.shownMissing(4), 0);
        CHECK.yes("the 40th", y.unnumber(39, 4));
        CHECK.yes("the first", y.unnumber(0, 4));
        CHECK.same("missing on 4", y.shownMissing(4), 2);
    }

    @Edge(promise = 8, words = "it is not THERE")
    private static void unnumberOneTakenAway() {
        DrillCount x = Made.numbered(5, 6);
        x.remove(0);
        CHECK.no("it had one", x.unnumber(0, 0));
        CHECK.same("count(3)", x.count(3), 1);
        CHECK.yes("the other one", x.unnumber(1, 0));
    }

    @Edge(promise = 8, words = "or if it is MISSING there and MISSING is SELECTED")
    private static void unnumberChangesWhoPasses() {
        DrillCount x = Made.numbered(5);
        x.range(0, 5, 5);
        CHECK.same("in the range", x.count(4), 1);
        x.unnumber(0, 0);
        CHECK.same("without a number", x.count(4), 0);
        x.missing(0, true);
        CHECK.same("MISSING is selected", x.count(4), 1);
        x.number(0, 0, 6);
        CHECK.same("a number beside the range", x.count(4), 0);
        x.unnumber(0, 0);
        CHECK.same("without a number again", x.count(4), 1);
    }

    // ---- 9: remove

    @Edge(promise = 9, words = "false: others")
    private static void removeNoDocument() {
        DrillCount x = new DrillCount();
        CHECK.no("document 0, none there", x.remove(0));
        Made.documents(x, 1);
        CHECK.allNo("document", Made.outside(0, 0), x::remove);
        CHECK.same("count(3)", x.count(3), 1);
        DrillCount y = Made.full();
        CHECK.allNo("document, forty there", Made.outside(0, 39), y::remove);
        CHECK.same("count(3)", y.count(3), 40);
        CHECK.yes("the 40th", y.remove(39));
        CHECK.yes("the first", y.remove(0));
        CHECK.same("count(3)", y.count(3), 38);
    }

    @Edge(promise = 9, words = "it is not THERE")
    private static void removeOneTakenAway() {
        DrillCount x = new DrillCount();
        Made.documents(x, 2);
        CHECK.yes("once", x.remove(0));
        CHECK.no("twice", x.remove(0));
        CHECK.no("a third time", x.remove(0));
        CHECK.same("count(3)", x.count(3), 1);
        CHECK.same("count(2)", x.count(2), 2);
    }

    @Edge(promise = 9, words = "THERE till it is taken away")
    private static void removeAllOfAFullOne() {
        DrillCount x = Made.full();
        x.select(0, true);
        for (int d = 0; d < 40; d++) {
            CHECK.yes("remove(" + d + ")", x.remove(d));
        }
        CHECK.same("count(2)", x.count(2), 40);
        CHECK.same("count(3)", x.count(3), 0);
        CHECK.same("count(4)", x.count(4), 0);
        CHECK.same("hit(0)", x.hit(0), NONE);
        CHECK.same("most()", x.most(), NONE);
        CHECK.same("near(0)", x.near(0), 0);
        CHECK.same("shownMissing(0)", x.shownMissing(0), 0);
        CHECK.same("bins(4, 8)", x.bins(4, 8), 0);
        CHECK.same("even(4, 8)", x.even(4, 8), 0);
        CHECK.same("read(3, 1)", x.read(3, 1), 0);
        CHECK.same("cover(1, NONE)", x.cover(1, NONE), 0);
        CHECK.same("sets(3, 0)", x.sets(3, 0), ((1L << 22) - 1) << 18);
        for (int n = 0; n <= 5; n++) {
            CHECK.same("miss(" + n + ")", x.miss(n), 0);
        }
        CHECK.same("what is selected stays", x.count(5), 1);
        CHECK.same("and can be taken back", x.count(8), 1);
    }

    @Edge(promise = 9, words = "(Only those THERE are asked about.)")
    private static void removedOneCountsNowhere() {
        DrillCount x = Made.axes(0, 2);
        Made.flat(x, 0, 1);
        Made.document(x, 9, 0);
        Made.document(x, 8, 0);
        x.number(0, 1, 3);
        x.number(1, 1, 4);
        x.remove(0);
        CHECK.same("shown(0)", x.shown(0), 1);
        CHECK.same("near(0)", x.near(0), 1);
        CHECK.same("lift(0, 1)", x.lift(0, 1), 1);
        CHECK.same("sums(0, 0)", x.sums(0, 0), 1);
        CHECK.same("click(0, 0)", x.click(0, 0), 1);
        CHECK.same("both(0, 0)", x.both(0, 0), 1);
        CHECK.same("hit(0)", x.hit(0), 1);
        CHECK.same("most()", x.most(), 1);
        CHECK.same("bin(1, 1, 0, 0)", x.bin(1, 1, 0, 0), 4);
        CHECK.same("middle(1, 1)", x.middle(1, 1), 0);
        CHECK.same("read(0, 1)", x.read(0, 1), 0);
        CHECK.same("miss(0)", x.miss(0), 1);
    }
}
