import java.io.IOException;

/** Promises 10 to 15, each boundary that the document names by a test of its own. */
public final class EdgeSelectTest {

    private static final int NONE = DrillCount.NONE;
    private static final int MIN = Integer.MIN_VALUE;
    private static final int MAX = Integer.MAX_VALUE;
    private static final Check CHECK = new Check();

    public static void main(String[] args) throws IOException {
        Edges.run(EdgeSelectTest.class, CHECK, 10, 11, 12, 13, 14, 15);
    }

    /** Axes 0 ANY with category 0, 1 ALL with 1, 2 NUMBER; documents 0 (all of it) and 1 (nothing). */
    private static DrillCount three() {
        DrillCount x = Made.axes(0, 1, 2);
        Made.flat(x, 0, 1);
        Made.flat(x, 1, 1);
        Made.document(x, 60, 0, 1);
        x.number(0, 2, 10);
        x.document(50);
        return x;
    }

    // ---- 10: select

    @Edge(promise = 10, words = "false: others")
    private static void selectNoCategory() {
        DrillCount x = Made.axes(0);
        CHECK.no("category 0, none there", x.select(0, true));
        CHECK.no("category 0, none there, off", x.select(0, false));
        Made.flat(x, 0, 2);
        CHECK.allNo("on", Made.outside(0, 1), c -> x.select(c, true));
        CHECK.allNo("off", Made.outside(0, 1), c -> x.select(c, false));
        CHECK.same("count(5)", x.count(5), 0);
        CHECK.same("count(7)", x.count(7), 0);
        CHECK.same("count(8)", x.count(8), 0);
        CHECK.yes("the last", x.select(1, true));
    }

    @Edge(promise = 10, words = "false: others")
    private static void selectInAFullOne() {
        DrillCount x = Made.full();
        CHECK.allNo("on", Made.outside(0, 39), c -> x.select(c, true));
        CHECK.same("count(5)", x.count(5), 0);
        CHECK.yes("the 40th", x.select(39, true));
        CHECK.same("its axis is not open", x.count(7), 8);
        CHECK.same("hit(0)", x.hit(0), 39);
        CHECK.same("hits", x.count(4), 1);
    }

    @Edge(promise = 10, words = "it is so already")
    private static void selectThatIsSoAlready() {
        for (int category = 0; category < 2; category++) {
            DrillCount x = three();
            CHECK.no("off, it is not", x.select(category, false));
            CHECK.same("no step", x.count(8), 0);
            CHECK.yes("on", x.select(category, true));
            CHECK.no("on again", x.select(category, true));
            CHECK.same("one step", x.count(8), 1);
            CHECK.yes("off", x.select(category, false));
            CHECK.no("off again", x.select(category, false));
            CHECK.same("two steps", x.count(8), 2);
            CHECK.same("all open", x.count(7), 0);
        }
    }

    @Edge(promise = 10, words = "SELECTED on an axis: CATEGORIES of it (any)")
    private static void selectAllForty() {
        DrillCount x = Made.full();
        for (int c = 0; c < 40; c++) {
            CHECK.yes("on", x.select(c, true));
            CHECK.no("again", x.select(c, true));
            CHECK.same("count(5)", x.count(5), c + 1);
        }
        CHECK.same("count(7)", x.count(7), 1 + 2 + 8);
        for (int c = 0; c < 40; c++) {
            CHECK.yes("off", x.select(c, false));
        }
        CHECK.same("count(5)", x.count(5), 0);
        CHECK.same("count(7)", x.count(7), 0);
        CHECK.same("hits", x.count(4), 40);
    }

    @Edge(promise = 10, words = "ANY: if it HAS any of the SELECTED CATEGORIES")
    private static void passesAnyByOneOfThem() {
        DrillCount x = Made.axes(0);
        Made.chain(x, 0, 6);
        Made.flat(x, 0, 2);
        Made.document(x, 1, 5);
        Made.document(x, 1, 6);
        Made.document(x, 1, 7);
        Made.document(x, 1);
        x.select(0, true);
        CHECK.same("the top one, had by level 5", x.count(4), 1);
        x.select(6, true);
        CHECK.same("or 6", x.count(4), 2);
        x.select(0, false);
        x.select(5, true);
        CHECK.same("5 itself, or 6", x.count(4), 2);
        x.select(6, false);
        x.move(5, 7);
        x.select(5, false);
        x.select(7, true);
        CHECK.same("7, and what came below it", x.count(4), 2);
    }

    @Edge(promise = 10, words = "ALL: if it HAS all SELECTED CATEGORIES")
    private static void passesAllByEachOfThem() {
        DrillCount x = Made.axes(1);
        Made.flat(x, 0, 40);
        x.document(1);
        for (int c = 0; c < 40; c++) {
            x.select(c, true);
            x.tag(0, c, true);
            CHECK.same("it has all", x.count(4), 1);
        }
        for (int c : new int[] {0, 39, 20}) {
            x.tag(0, c, false);
            CHECK.same("one is lacking", x.count(4), 0);
            x.tag(0, c, true);
        }
        CHECK.same("it has all again", x.count(4), 1);
    }

    @Edge(promise = 10, words = "A DOCUMENT PASSES an axis, if that is OPEN")
    private static void passesWhatIsOpen() {
        DrillCount x = three();
        CHECK.same("one that has nothing passes all", x.doc(1, 3), 7);
        x.select(0, true);
        CHECK.same("not the one that is not open", x.doc(1, 3), 6);
        x.select(0, false);
        CHECK.same("all, when it is open again", x.doc(1, 3), 7);
    }

    // ---- 11: range

    @Edge(promise = 11, words = "any low no more than a high")
    private static void rangeLowToHigh() {
        DrillCount x = Made.numbered(5);
        CHECK.same("low one above high", x.range(0, 6, 5), NONE);
        CHECK.same("MAX to MIN", x.range(0, MAX, MIN), NONE);
        CHECK.same("MIN + 1 to MIN", x.range(0, MIN + 1, MIN), NONE);
        CHECK.same("MAX to MAX - 1", x.range(0, MAX, MAX - 1), NONE);
        CHECK.same("0 to MIN", x.range(0, 0, MIN), NONE);
        CHECK.same("MAX to -1", x.range(0, MAX, -1), NONE);
        CHECK.same("count(6)", x.count(6), 0);
        CHECK.same("no step", x.count(8), 0);
        CHECK.same("low as high", x.range(0, 5, 5), 0);
        CHECK.same("hits", x.count(4), 1);
    }

    @Edge(promise = 11, words = "any low no more than a high")
    private static void rangeOfTheLeastAndTheGreatestInt() {
        int[][] ranges = {{MIN, MAX}, {MIN, 5}, {5, MAX}, {MIN, MIN}, {MAX, MAX}, {MIN, 4}, {6, MAX},
            {1000, 2000}, {-2000, -1000}};
        int[] hits = {1, 1, 1, 0, 0, 0, 0, 0, 0};
        for (int i = 0; i < ranges.length; i++) {
            DrillCount x = Made.numbered(5);
            x.document(50);
            CHECK.same("it is taken", x.range(0, ranges[i][0], ranges[i][1]), 0);
            CHECK.same("hits of range " + i + ", who has none is not in it", x.count(4), hits[i]);
        }
    }

    @Edge(promise = 11, words = "if its number is in any of the RANGES (ends, too)")
    private static void rangeEndsCount() {
        DrillCount x = Made.numbered(-4, -3, 3, 4, -999, 999);
        x.range(0, -3, 3);
        CHECK.same("hits: -3 and 3", x.count(4), 2);
        CHECK.same("the first", x.hit(0), 1);
        CHECK.same("the last", x.hit(1), 2);
        x.range(0, 999, 1000);
        CHECK.same("and 999", x.count(4), 3);
        x.range(0, -1000, -999);
        CHECK.same("and -999", x.count(4), 4);
    }

    @Edge(promise = 11, words = "three there are")
    private static void threeRangesAndNoFourth() {
        DrillCount x = Made.numbered(1, 2, 3, 4);
        CHECK.same("the first", x.range(0, 1, 1), 0);
        CHECK.same("the second", x.range(0, 2, 2), 1);
        CHECK.same("the third", x.range(0, 3, 3), 2);
        CHECK.same("a fourth", x.range(0, 4, 4), NONE);
        CHECK.same("a fourth, MIN to MAX", x.range(0, MIN, MAX), NONE);
        CHECK.same("a fourth, as the first", x.range(0, 1, 1), NONE);
        CHECK.same("hits", x.count(4), 3);
        CHECK.same("count(6)", x.count(6), 3);
        CHECK.same("steps", x.count(8), 3);
        x.drop(0, 1);
        CHECK.same("one, when there are two", x.range(0, 4, 4), 2);
        CHECK.same("hits", x.count(4), 3);
        CHECK.same("a fourth again", x.range(0, 2, 2), NONE);
        x.back();
        CHECK.same("one, when it was taken back", x.range(0, 2, 2), 2);
    }

    @Edge(promise = 11, words = "RANGES (NUMBER; 3 at most, numbered as told)")
    private static void threeRangesOnEachAxis() {
        DrillCount x = Made.axes(2, 2, 2, 2, 2);
        for (int axis = 0; axis < 5; axis++) {
            for (int i = 0; i < 3; i++) {
                CHECK.same("range on " + axis, x.range(axis, 0, 0), i);
            }
            CHECK.same("a fourth on " + axis, x.range(axis, 0, 0), NONE);
        }
        CHECK.same("count(6)", x.count(6), 15);
        CHECK.same("count(7)", x.count(7), 31);
    }

    @Edge(promise = 11, words = "NONE: others")
    private static void rangeOnNoAxis() {
        DrillCount x = new DrillCount();
        CHECK.same("axis 0, none there", x.range(0, 0, 0), NONE);
        x.axis(2);
        CHECK.allSame("axis", Made.outside(0, 0), a -> x.range(a, 0, 0), NONE);
        CHECK.same("axis 0", x.range(0, 0, 0), 0);
        DrillCount y = Made.full();
        CHECK.allSame("axis, five there", Made.outside(0, 4), a -> y.range(a, 0, 0), NONE);
        CHECK.same("on ANY", y.range(0, 0, 0), NONE);
        CHECK.same("on ALL", y.range(1, 0, 0), NONE);
        CHECK.same("no step", y.count(8), 0);
        CHECK.same("axis 4", y.range(4, 0, 0), 0);
    }

    // ---- 12: drop

    @Edge(promise = 12, words = "the i-th RANGE is no more")
    private static void dropFromTheFirstToTheLast() {
        for (int many = 0; many <= 3; many++) {
            DrillCount x = Made.numbered(0, 1, 2);
            for (int i = 0; i < many; i++) {
                x.range(0, i, i);
            }
            CHECK.allNo("drop of " + many, Made.outside(0, many - 1), i -> x.drop(0, i));
            CHECK.same("count(6)", x.count(6), many);
            CHECK.same("steps", x.count(8), many);
            if (many > 0) {
                CHECK.yes("the last", x.drop(0, many - 1));
                CHECK.no("it again", x.drop(0, many - 1));
                CHECK.same("count(6)", x.count(6), many - 1);
            }
        }
    }

    @Edge(promise = 12, words = "(those behind it are one lower)")
    private static void dropMovesThoseBehind() {
        for (int dropped = 0; dropped < 3; dropped++) {
            DrillCount x = Made.numbered(0, 1, 2);
            for (int i = 0; i < 3; i++) {
                x.range(0, i, i);
            }
            CHECK.yes("drop " + dropped, x.drop(0, dropped));
            CHECK.no("a third is no more", x.drop(0, 2));
            int first = dropped == 0 ? 1 : 0;
            int second = dropped == 2 ? 1 : 2;
            CHECK.same("the first hit", x.hit(0), first);
            CHECK.same("the second hit", x.hit(1), second);
            x.drop(0, 0);
            CHECK.same("the one behind has come down", x.hit(0), second);
            CHECK.same("hits", x.count(4), 1);
            CHECK.yes("the last one is number 0", x.drop(0, 0));
            CHECK.same("the axis is open", x.count(7), 0);
        }
    }

    @Edge(promise = 12, words = "false: others")
    private static void dropOnNoAxis() {
        DrillCount x = new DrillCount();
        CHECK.no("axis 0, none there", x.drop(0, 0));
        DrillCount y = Made.full();
        y.select(0, true);
        y.select(6, true);
        y.range(4, 0, 0);
        CHECK.allNo("axis", Made.outside(0, 4), a -> y.drop(a, 0));
        CHECK.no("on ANY", y.drop(0, 0));
        CHECK.no("on ALL", y.drop(1, 0));
        CHECK.no("on one without a range", y.drop(2, 0));
        CHECK.same("count(6)", y.count(6), 1);
        CHECK.yes("axis 4", y.drop(4, 0));
    }

    // ---- 13: missing

    @Edge(promise = 13, words = "false: others")
    private static void missingOnNoAxis() {
        DrillCount x = new DrillCount();
        CHECK.no("axis 0, none there", x.missing(0, true));
        DrillCount y = Made.full();
        CHECK.allNo("on", Made.outside(0, 4), a -> y.missing(a, true));
        CHECK.allNo("off", Made.outside(0, 4), a -> y.missing(a, false));
        CHECK.same("count(7)", y.count(7), 0);
        CHECK.yes("axis 4", y.missing(4, true));
        CHECK.same("count(7)", y.count(7), 16);
        CHECK.same("hits", y.count(4), 0);
    }

    @Edge(promise = 13, words = "it is so already")
    private static void missingThatIsSoAlready() {
        for (int axis = 0; axis < 3; axis++) {
            DrillCount x = three();
            CHECK.no("off, it is not", x.missing(axis, false));
            CHECK.yes("on", x.missing(axis, true));
            CHECK.no("on again", x.missing(axis, true));
            CHECK.same("one step", x.count(8), 1);
            CHECK.same("hit(0)", x.hit(0), 1);
            CHECK.same("hits", x.count(4), 1);
            CHECK.yes("off", x.missing(axis, false));
            CHECK.no("off again", x.missing(axis, false));
            CHECK.same("two steps", x.count(8), 2);
            CHECK.same("hits", x.count(4), 2);
        }
    }

    @Edge(promise = 13, words = "both: or if it is MISSING there and MISSING is SELECTED")
    private static void missingOrSelected() {
        DrillCount x = three();
        x.select(0, true);
        CHECK.same("ANY, without", x.count(4), 1);
        x.missing(0, true);
        CHECK.same("ANY, with", x.count(4), 2);
        x.open(0);
        x.range(2, 10, 10);
        CHECK.same("NUMBER, without", x.count(4), 1);
        x.missing(2, true);
        CHECK.same("NUMBER, with", x.count(4), 2);
    }

    @Edge(promise = 13, words = "and is MISSING, if that is SELECTED")
    private static void missingAndSelected() {
        DrillCount x = three();
        x.missing(1, true);
        CHECK.same("ALL, alone", x.hit(0), 1);
        CHECK.same("hits", x.count(4), 1);
        x.select(1, true);
        CHECK.same("ALL, none has one and is missing", x.count(4), 0);
        x.missing(1, false);
        CHECK.same("ALL, no more", x.hit(0), 0);
    }

    @Edge(promise = 13, words = "if it is TAGGED with none of it, has no number")
    private static void missingEndsWithTheFirstTag() {
        DrillCount x = three();
        Made.chain(x, 0, 6);
        x.missing(0, true);
        CHECK.same("hits", x.count(4), 1);
        x.tag(1, 7, true);
        CHECK.same("tagged at level 5", x.count(4), 0);
        x.tag(1, 7, false);
        x.tag(1, 1, true);
        CHECK.same("tagged on another axis only", x.count(4), 1);
    }

    // ---- 14: open

    @Edge(promise = 14, words = "false: others")
    private static void openNoAxis() {
        DrillCount x = new DrillCount();
        CHECK.no("axis 0, none there", x.open(0));
        DrillCount y = Made.full();
        for (int axis = 0; axis < 5; axis++) {
            y.missing(axis, true);
        }
        CHECK.allNo("axis", Made.outside(0, 4), y::open);
        CHECK.same("count(7)", y.count(7), 31);
        CHECK.yes("axis 4", y.open(4));
        CHECK.same("count(7)", y.count(7), 15);
        CHECK.yes("axis 0", y.open(0));
        CHECK.same("count(7)", y.count(7), 14);
    }

    @Edge(promise = 14, words = "it is OPEN")
    private static void openThatIsOpen() {
        for (int axis = 0; axis < 3; axis++) {
            DrillCount x = three();
            CHECK.no("a new one", x.open(axis));
            x.missing(axis, true);
            CHECK.yes("with missing", x.open(axis));
            CHECK.no("again", x.open(axis));
            x.missing(axis, true);
            x.missing(axis, false);
            CHECK.no("what was selected is no more", x.open(axis));
            x.missing(axis, true);
            x.back();
            CHECK.no("what was selected is taken back", x.open(axis));
            CHECK.same("steps", x.count(8), 4);
        }
    }

    @Edge(promise = 14, words = "nothing is SELECTED on an axis any more")
    private static void openTakesAllAway() {
        DrillCount x = Made.full();
        for (int c = 0; c < 6; c++) {
            x.select(c, true);
        }
        x.missing(0, true);
        x.range(4, 0, 1);
        x.range(4, 0, 1);
        x.range(4, 0, 1);
        x.missing(4, true);
        CHECK.yes("open(0)", x.open(0));
        CHECK.same("count(5)", x.count(5), 0);
        CHECK.same("count(6)", x.count(6), 3);
        CHECK.same("count(7)", x.count(7), 16);
        CHECK.yes("open(4)", x.open(4));
        CHECK.same("count(6)", x.count(6), 0);
        CHECK.same("count(7)", x.count(7), 0);
        CHECK.no("drop(4, 0)", x.drop(4, 0));
        CHECK.same("hits", x.count(4), 40);
    }

    // ---- 15: back

    @Edge(promise = 15, words = "false: nothing can be")
    private static void backOfNothing() {
        DrillCount x = new DrillCount();
        CHECK.no("a new one", x.back());
        DrillCount y = Made.full();
        y.move(39, 38);
        y.unnumber(0, 4);
        y.remove(0);
        CHECK.no("what is no selection", y.back());
        CHECK.same("count(8)", y.count(8), 0);
        y.select(0, true);
        CHECK.yes("one", y.back());
        CHECK.no("no more", y.back());
        CHECK.no("nor again", y.back());
        CHECK.same("39 stays below 38", y.of(39, 1), 38);
        CHECK.same("0 stays away", y.doc(0, 1), 0);
    }

    @Edge(promise = 15, words = "what was done by SELECT, RANGE, DROP, MISSING, OPEN that could be done")
    private static void backOfEachKindOfStep() {
        DrillCount x = three();
        x.select(0, true);
        x.select(0, false);
        x.range(2, 1, 2);
        x.range(2, 10, 10);
        x.drop(2, 0);
        x.missing(2, true);
        x.missing(2, false);
        x.open(2);
        int[] hitsAhead = {2, 1, 2, 0, 1, 1, 2, 1};
        CHECK.same("hits", x.count(4), 2);
        for (int step = 8; step > 0; step--) {
            CHECK.same("count(8)", x.count(8), step);
            CHECK.yes("back()", x.back());
            CHECK.same("hits ahead of step " + step, x.count(4), hitsAhead[step - 1]);
        }
        CHECK.no("back()", x.back());
    }

    @Edge(promise = 15, words = "that could be done")
    private static void backSkipsWhatWasRefused() {
        DrillCount x = three();
        x.select(0, true);
        x.select(0, true);
        x.select(9, true);
        x.range(2, 2, 1);
        x.range(0, 1, 2);
        x.drop(2, 0);
        x.missing(0, false);
        x.missing(9, true);
        x.open(1);
        x.open(9);
        CHECK.same("count(8)", x.count(8), 1);
        CHECK.yes("back()", x.back());
        CHECK.same("of(0, 3)", x.of(0, 3), 0);
        CHECK.no("back()", x.back());
    }

    @Edge(promise = 15, words = "the last 16, one by one")
    private static void backSixteenAndNotSeventeen() {
        for (int steps : new int[] {15, 16, 17, 31, 32, 33, 40}) {
            DrillCount x = Made.full();
            for (int c = 0; c < steps; c++) {
                x.select(c, true);
            }
            int kept = Math.min(steps, 16);
            CHECK.same("count(8) behind " + steps, x.count(8), kept);
            for (int step = 1; step <= kept; step++) {
                CHECK.yes("back()", x.back());
                CHECK.same("count(5)", x.count(5), steps - step);
                CHECK.same("the last is off", x.of(steps - step, 3), 0);
                CHECK.same("count(8)", x.count(8), kept - step);
            }
            CHECK.no("one more", x.back());
            CHECK.same("the first ones stay", x.count(5), steps - kept);
        }
    }

    @Edge(promise = 15, words = "the last 16, one by one")
    private static void backAndForthBeyondSixteen() {
        DrillCount x = Made.full();
        for (int c = 0; c < 20; c++) {
            x.select(c, true);
        }
        for (int step = 0; step < 10; step++) {
            CHECK.yes("back()", x.back());
        }
        CHECK.same("six can be", x.count(8), 6);
        for (int c = 20; c < 30; c++) {
            x.select(c, true);
        }
        CHECK.same("sixteen again", x.count(8), 16);
        x.select(30, true);
        CHECK.same("and no more", x.count(8), 16);
        for (int step = 0; step < 16; step++) {
            CHECK.yes("back()", x.back());
        }
        CHECK.no("one more", x.back());
        CHECK.same("0 to 4 stay", x.count(5), 5);
        CHECK.same("4", x.of(4, 3), 1);
        CHECK.same("5", x.of(5, 3), 0);
    }

    @Edge(promise = 15, words = "(SELECTED is as ahead of it)")
    private static void backOfOpenBringsAllAgain() {
        DrillCount x = Made.numbered(1, 2, 3, 4);
        x.range(0, 1, 1);
        x.range(0, 2, 2);
        x.range(0, 3, 3);
        x.missing(0, true);
        x.open(0);
        CHECK.yes("back() of open", x.back());
        CHECK.same("count(6)", x.count(6), 3);
        CHECK.no("missing is on", x.missing(0, true));
        CHECK.same("hits", x.count(4), 3);
        x.drop(0, 0);
        CHECK.yes("back() of drop", x.back());
        x.drop(0, 2);
        CHECK.same("the ranges stand as they did: 1 and 2", x.hit(1), 1);
        CHECK.same("hits", x.count(4), 2);
    }

    @Edge(promise = 15, words = "(SELECTED is as ahead of it)")
    private static void backIsNoStepItself() {
        DrillCount x = three();
        x.select(0, true);
        x.select(1, true);
        x.back();
        CHECK.same("count(8)", x.count(8), 1);
        CHECK.same("of(1, 3)", x.of(1, 3), 0);
        x.back();
        CHECK.same("back() does not bring it again", x.of(1, 3), 0);
        CHECK.same("count(5)", x.count(5), 0);
    }

    @Edge(promise = 15, words = "(SELECTED is as ahead of it)")
    private static void backKeepsAllThatIsNoSelection() {
        DrillCount x = three();
        x.select(0, true);
        x.axis(1);
        x.category(0, 0);
        x.document(70);
        x.tag(2, 2, true);
        x.number(2, 2, 7);
        x.remove(0);
        CHECK.yes("back()", x.back());
        CHECK.same("axes", x.count(0), 4);
        CHECK.same("categories", x.count(1), 3);
        CHECK.same("documents", x.count(2), 3);
        CHECK.same("there", x.count(3), 2);
        CHECK.yes("has(2, 0)", x.has(2, 0));
        CHECK.same("numberOf(2, 2)", x.numberOf(2, 2), 7);
        CHECK.same("hits", x.count(4), 2);
    }

    @Edge(promise = 15, words = "the last 16, one by one")
    private static void backOnAllFiveAxes() {
        DrillCount x = Made.full();
        for (int axis = 0; axis < 5; axis++) {
            x.missing(axis, true);
        }
        for (int axis = 0; axis < 5; axis++) {
            x.open(axis);
        }
        int due = 0;
        for (int axis = 4; axis >= 0; axis--) {
            due += 1 << axis;
            CHECK.yes("back() of open", x.back());
            CHECK.same("count(7)", x.count(7), due);
        }
        for (int axis = 4; axis >= 0; axis--) {
            due -= 1 << axis;
            CHECK.yes("back() of missing", x.back());
            CHECK.same("count(7)", x.count(7), due);
        }
        CHECK.no("back()", x.back());
    }
}
