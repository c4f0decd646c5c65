import java.io.IOException;

/** Promises 16 to 20 and 42, each boundary that the document names by a test of its own. */
public final class EdgeLookTest {

    private static final int NONE = DrillCount.NONE;
    private static final Check CHECK = new Check();

    public static void main(String[] args) throws IOException {
        Edges.run(EdgeLookTest.class, CHECK, 16, 17, 18, 19, 20, 42);
    }

    // ---- 16: of

    @Edge(promise = 16, words = "NONE: others")
    private static void ofNoCategory() {
        DrillCount x = Made.axes(0);
        for (int what = 0; what <= 4; what++) {
            CHECK.same("of(0, " + what + "), none there", x.of(0, what), NONE);
        }
        Made.flat(x, 0, 2);
        DrillCount full = Made.full();
        for (int what = 0; what <= 4; what++) {
            int asked = what;
            CHECK.allSame("category", Made.outside(0, 1), c -> x.of(c, asked), NONE);
            CHECK.allSame("category", Made.outside(0, 39), c -> full.of(c, asked), NONE);
        }
        CHECK.same("the last", x.of(1, 0), 0);
        CHECK.same("the 40th", full.of(39, 0), 3);
    }

    @Edge(promise = 16, words = "NONE: others")
    private static void ofNoSuchWhat() {
        DrillCount x = Made.full();
        for (int category : new int[] {0, 5, 39}) {
            CHECK.allSame("what", Made.outside(0, 4), w -> x.of(category, w), NONE);
        }
        CHECK.same("what 0", x.of(5, 0), 0);
        CHECK.same("what 4", x.of(5, 4), 0);
    }

    @Edge(promise = 16, words = "what 0: its axis")
    private static void ofTheFirstAndTheLastAxis() {
        DrillCount x = Made.axes(1, 2, 2, 2, 0);
        Made.flat(x, 0, 1);
        Made.flat(x, 4, 1);
        CHECK.same("axis 0", x.of(0, 0), 0);
        CHECK.same("axis 4", x.of(1, 0), 4);
    }

    @Edge(promise = 16, words = "1: the one it is below (NONE: none)")
    private static void ofTheOneItIsBelow() {
        DrillCount x = Made.axes(0);
        Made.flat(x, 0, 40);
        CHECK.same("none", x.of(0, 1), NONE);
        x.move(0, 39);
        CHECK.same("the 40th", x.of(0, 1), 39);
        x.move(39, 1);
        CHECK.same("the second", x.of(39, 1), 1);
        CHECK.same("right above, not at the top", x.of(0, 1), 39);
        x.move(0, NONE);
        CHECK.same("none again", x.of(0, 1), NONE);
    }

    @Edge(promise = 16, words = "LEVEL: 0 at the top, one more than that of the one it is below; 5 at most")
    private static void ofLevelsZeroToFive() {
        DrillCount x = Made.full();
        for (int c = 0; c < 6; c++) {
            CHECK.same("level of " + c, x.of(c, 2), c);
        }
        CHECK.same("level of 39", x.of(39, 2), 0);
    }

    @Edge(promise = 16, words = "3: 1 SELECTED (0: not)")
    private static void ofSelectedOrNot() {
        DrillCount x = Made.full();
        for (int c = 0; c < 40; c++) {
            CHECK.same("not", x.of(c, 3), 0);
            x.select(c, true);
            CHECK.same("selected", x.of(c, 3), 1);
        }
        x.open(3);
        CHECK.same("the 40th, its axis is open", x.of(39, 3), 0);
        CHECK.same("17, of another axis", x.of(17, 3), 1);
    }

    @Edge(promise = 16, words = "those that are right below it, those below these, on and on")
    private static void ofHowManyAreBelow() {
        DrillCount x = Made.axes(0);
        Made.flat(x, 0, 1);
        CHECK.same("none", x.of(0, 4), 0);
        for (int c = 1; c < 40; c++) {
            x.category(0, c <= 5 ? c - 1 : 4);
            CHECK.same("all levels count", x.of(0, 4), c);
        }
        CHECK.same("39 below the first", x.of(0, 4), 39);
        CHECK.same("none below the 40th", x.of(39, 4), 0);
        CHECK.same("35 below 4", x.of(4, 4), 35);
    }

    // ---- 17: doc

    @Edge(promise = 17, words = "NONE: others")
    private static void docOfNoDocument() {
        DrillCount x = Made.axes(0);
        DrillCount full = Made.full();
        for (int what = 0; what <= 4; what++) {
            int asked = what;
            CHECK.same("none there", x.doc(0, what), NONE);
            CHECK.allSame("document", Made.outside(0, 39), d -> full.doc(d, asked), NONE);
        }
        Made.documents(x, 1);
        CHECK.allSame("document, one there", Made.outside(0, 0), d -> x.doc(d, 1), NONE);
        CHECK.same("the 40th", full.doc(39, 1), 1);
    }

    @Edge(promise = 17, words = "NONE: others")
    private static void docOfNoSuchWhat() {
        DrillCount x = Made.full();
        x.remove(1);
        for (int document : new int[] {0, 1, 39}) {
            CHECK.allSame("what", Made.outside(0, 4), w -> x.doc(document, w), NONE);
        }
    }

    @Edge(promise = 17, words = "what 0: SCORE")
    private static void docScores() {
        DrillCount x = new DrillCount();
        x.document(0);
        x.document(99);
        CHECK.same("the least", x.doc(0, 0), 0);
        CHECK.same("the greatest", x.doc(1, 0), 99);
        x.remove(1);
        CHECK.same("of one taken away", x.doc(1, 0), 99);
    }

    @Edge(promise = 17, words = "1: 1 THERE")
    private static void docThereOrNot() {
        DrillCount x = Made.full();
        for (int d : new int[] {0, 39}) {
            CHECK.same("there", x.doc(d, 1), 1);
            x.remove(d);
            CHECK.same("not there", x.doc(d, 1), 0);
        }
        CHECK.same("another one", x.doc(1, 1), 1);
    }

    @Edge(promise = 17, words = "2: 1 a HIT")
    private static void docHitOrNot() {
        DrillCount x = new DrillCount();
        x.document(1);
        CHECK.same("without an axis all are hits", x.doc(0, 2), 1);
        for (int axis = 0; axis < 5; axis++) {
            x.axis(2);
            CHECK.same("all axes open", x.doc(0, 2), 1);
        }
        x.number(0, 4, 1);
        x.missing(4, true);
        CHECK.same("it does not pass the last", x.doc(0, 2), 0);
        x.open(4);
        x.number(0, 0, 1);
        x.missing(0, true);
        CHECK.same("it does not pass the first", x.doc(0, 2), 0);
        x.open(0);
        x.remove(0);
        CHECK.same("it is not there", x.doc(0, 2), 0);
    }

    @Edge(promise = 17, words = "3: PASSED (NONE: not THERE)")
    private static void docPassed() {
        DrillCount x = new DrillCount();
        x.document(1);
        CHECK.same("without an axis", x.doc(0, 3), 0);
        for (int axis = 0; axis < 5; axis++) {
            x.axis(axis % 3);
        }
        CHECK.same("all five", x.doc(0, 3), 31);
        Made.flat(x, 0, 1);
        Made.flat(x, 1, 1);
        Made.flat(x, 3, 1);
        Made.flat(x, 4, 1);
        for (int c = 0; c < 4; c++) {
            x.select(c, true);
        }
        x.range(2, 1, 1);
        CHECK.same("none", x.doc(0, 3), 0);
        x.tag(0, 3, true);
        CHECK.same("the last", x.doc(0, 3), 16);
        x.tag(0, 0, true);
        CHECK.same("and the first", x.doc(0, 3), 17);
        x.remove(0);
        CHECK.same("not there", x.doc(0, 3), NONE);
    }

    @Edge(promise = 17, words = "PASSED of a DOCUMENT: axes that it PASSES (bits).")
    private static void docPassedAxisByAxis() {
        for (int axis = 0; axis < 5; axis++) {
            DrillCount x = Made.axes(0, 1, 2, 1, 2);
            x.document(1);
            Made.flat(x, 0, 1);
            Made.flat(x, 1, 1);
            Made.flat(x, 3, 1);
            int[] categories = {0, 1, NONE, 2, NONE};
            if (categories[axis] == NONE) {
                x.range(axis, 0, 0);
            } else {
                x.select(categories[axis], true);
            }
            CHECK.same("all but axis " + axis, x.doc(0, 3), 31 - (1 << axis));
            x.missing(axis, true);
            CHECK.same("ALL asks for both", x.doc(0, 3), axis % 2 == 1 ? 31 - (1 << axis) : 31);
        }
    }

    @Edge(promise = 17, words = "4: place in ORDER of those THERE (NONE: not THERE)")
    private static void docPlaces() {
        DrillCount x = Made.full();
        CHECK.same("the first", x.doc(39, 4), 0);
        CHECK.same("the last", x.doc(0, 4), 39);
        x.remove(39);
        CHECK.same("not there", x.doc(39, 4), NONE);
        CHECK.same("the first now", x.doc(38, 4), 0);
        CHECK.same("the last comes up", x.doc(0, 4), 38);
        x.remove(0);
        CHECK.same("not there", x.doc(0, 4), NONE);
        CHECK.same("the last now", x.doc(1, 4), 37);
        x.missing(4, true);
        CHECK.same("who is no hit has a place, too", x.doc(1, 4), 37);
    }

    @Edge(promise = 17, words = "by SCORES, downwards, of equal ones by numbers")
    private static void docPlacesOfEqualScores() {
        DrillCount x = new DrillCount();
        Made.documents(x, 38);
        x.document(51);
        x.document(49);
        CHECK.same("a score above", x.doc(38, 4), 0);
        for (int d = 0; d < 38; d++) {
            CHECK.same("of equal ones by numbers", x.doc(d, 4), d + 1);
        }
        CHECK.same("a score below", x.doc(39, 4), 39);
    }

    // ---- 18: has

    @Edge(promise = 18, words = "false: others")
    private static void hasOfNoDocument() {
        DrillCount x = Made.axes(0);
        Made.flat(x, 0, 1);
        CHECK.no("none there", x.has(0, 0));
        Made.document(x, 1, 0);
        CHECK.allNo("document", Made.outside(0, 0), d -> x.has(d, 0));
        CHECK.yes("the first", x.has(0, 0));
        DrillCount full = Made.full();
        CHECK.allNo("document, forty there", Made.outside(0, 39), d -> full.has(d, 0));
        CHECK.yes("the 40th", full.has(39, 39));
    }

    @Edge(promise = 18, words = "false: others")
    private static void hasNoCategory() {
        DrillCount x = Made.axes(0);
        x.document(1);
        CHECK.no("none there", x.has(0, 0));
        Made.flat(x, 0, 1);
        x.tag(0, 0, true);
        CHECK.allNo("category", Made.outside(0, 0), c -> x.has(0, c));
        DrillCount full = Made.full();
        CHECK.allNo("category, forty there", Made.outside(0, 39), c -> full.has(0, c));
    }

    @Edge(promise = 18, words = "it is not THERE")
    private static void hasOfOneTakenAway() {
        DrillCount x = Made.full();
        x.remove(39);
        x.remove(5);
        CHECK.no("the 40th", x.has(39, 39));
        CHECK.no("5, tagged", x.has(5, 5));
        CHECK.no("5, by what is below", x.has(5, 0));
    }

    @Edge(promise = 18, words = "It HAS a CATEGORY, if it is TAGGED with it or with one BELOW it.")
    private static void hasFromLevelFiveUp() {
        DrillCount x = Made.full();
        for (int c = 0; c < 6; c++) {
            CHECK.yes("tagged at level 5, has level " + c, x.has(5, c));
            CHECK.same("tagged at the top, has level " + c, x.has(0, c) ? 1 : 0, c == 0 ? 1 : 0);
        }
        CHECK.no("one of another tree", x.has(5, 39));
    }

    // ---- 19: numberOf

    @Edge(promise = 19, words = "NoSuchElementException: others")
    private static void numberOfNoDocument() {
        DrillCount x = Made.axes(2);
        CHECK.noSuch("none there", () -> x.numberOf(0, 0));
        DrillCount full = Made.full();
        CHECK.allNoSuch("document", Made.outside(0, 39), d -> full.numberOf(d, 4));
        CHECK.same("the 40th", full.numberOf(39, 4), 19);
        CHECK.same("the first", full.numberOf(0, 4), -20);
    }

    @Edge(promise = 19, words = "NoSuchElementException: others")
    private static void numberOfNoAxis() {
        DrillCount x = new DrillCount();
        x.document(1);
        CHECK.noSuch("none there", () -> x.numberOf(0, 0));
        DrillCount full = Made.full();
        CHECK.allNoSuch("axis", Made.outside(0, 4), a -> full.numberOf(0, a));
        CHECK.noSuch("ANY", () -> full.numberOf(0, 0));
        CHECK.noSuch("ALL", () -> full.numberOf(0, 1));
    }

    @Edge(promise = 19, words = "NoSuchElementException: others, none, it is not THERE")
    private static void numberOfOneWithout() {
        DrillCount x = Made.axes(2, 2);
        Made.documents(x, 2);
        x.number(0, 0, 0);
        CHECK.same("it has one", x.numberOf(0, 0), 0);
        CHECK.noSuch("none on the other axis", () -> x.numberOf(0, 1));
        CHECK.noSuch("another document has none", () -> x.numberOf(1, 0));
        x.unnumber(0, 0);
        CHECK.noSuch("none any more", () -> x.numberOf(0, 0));
    }

    @Edge(promise = 19, words = "it is not THERE")
    private static void numberOfOneTakenAway() {
        DrillCount x = Made.numbered(5);
        x.remove(0);
        CHECK.noSuch("it had one", () -> x.numberOf(0, 0));
    }

    @Edge(promise = 19, words = "has a number, -999 to 999")
    private static void numberOfTheLeastAndTheGreatest() {
        DrillCount x = Made.numbered(-999, 999, -1, 0);
        CHECK.same("-999", x.numberOf(0, 0), -999);
        CHECK.same("999", x.numberOf(1, 0), 999);
        CHECK.same("-1 is a number", x.numberOf(2, 0), -1);
        CHECK.same("0 is a number", x.numberOf(3, 0), 0);
    }

    // ---- 20: hit

    @Edge(promise = 20, words = "NONE: none such")
    private static void hitsFromTheFirstToTheLast() {
        DrillCount x = new DrillCount();
        CHECK.same("none there", x.hit(0), NONE);
        x.document(1);
        CHECK.same("the only one", x.hit(0), 0);
        CHECK.allSame("i", Made.outside(0, 0), x::hit, NONE);
        DrillCount full = Made.full();
        CHECK.same("the first of forty", full.hit(0), 39);
        CHECK.same("the last of forty", full.hit(39), 0);
        CHECK.allSame("i, of forty", Made.outside(0, 39), full::hit, NONE);
        full.select(1, true);
        CHECK.same("the last of five", full.hit(4), 1);
        CHECK.allSame("i, of five", Made.outside(0, 4), full::hit, NONE);
        full.missing(4, true);
        CHECK.same("no hit", full.hit(0), NONE);
        CHECK.allSame("i, of none", Made.outside(0, 0), full::hit, NONE);
    }

    @Edge(promise = 20, words = "In ORDER: by SCORES, downwards, of equal ones by numbers.")
    private static void hitsInOrder() {
        DrillCount x = new DrillCount();
        for (int score : new int[] {0, 99, 50, 0, 99, 50}) {
            x.document(score);
        }
        int[] due = {1, 4, 2, 5, 0, 3};
        for (int i = 0; i < due.length; i++) {
            CHECK.same("hit(" + i + ")", x.hit(i), due[i]);
        }
    }

    @Edge(promise = 20, words = "HITS: those that PASS all axes.")
    private static void hitsPassEveryAxis() {
        for (int axis = 0; axis < 5; axis++) {
            DrillCount x = Made.axes(2, 2, 2, 2, 2);
            Made.documents(x, 2);
            x.number(0, axis, 7);
            x.range(axis, 7, 7);
            CHECK.same("one passes axis " + axis, x.hit(0), 0);
            CHECK.same("the other does not", x.hit(1), NONE);
        }
    }

    // ---- 42: count

    @Edge(promise = 42, words = "NONE for another what.")
    private static void countOfAnotherWhat() {
        DrillCount x = new DrillCount();
        CHECK.allSame("what, on an empty one", Made.outside(0, 8), x::count, NONE);
        DrillCount full = Made.full();
        CHECK.allSame("what, on a full one", Made.outside(0, 8), full::count, NONE);
        CHECK.same("what 0", full.count(0), 5);
        CHECK.same("what 8", full.count(8), 0);
    }

    @Edge(promise = 42, words = "what is selected on each")
    private static void countOfAFullOne() {
        DrillCount x = Made.full();
        int[] open = {5, 40, 40, 40, 40, 0, 0, 0, 0};
        for (int what = 0; what <= 8; what++) {
            CHECK.same("count(" + what + ")", x.count(what), open[what]);
        }
        for (int c = 0; c < 40; c++) {
            x.select(c, true);
        }
        for (int i = 0; i < 3; i++) {
            x.range(2, i, i);
            x.range(4, i, i);
        }
        x.remove(7);
        int[] narrow = {5, 40, 40, 39, 0, 40, 6, 31, 16};
        for (int what = 0; what <= 8; what++) {
            CHECK.same("count(" + what + ")", x.count(what), narrow[what]);
        }
    }

    @Edge(promise = 42, words = "What 0: AXES, 1: CATEGORIES, 2: DOCUMENTS that have been, 3: that are THERE")
    private static void countWhatThereIsOneByOne() {
        DrillCount x = new DrillCount();
        for (int a = 0; a < 5; a++) {
            x.axis(0);
            CHECK.same("axes", x.count(0), a + 1);
        }
        for (int c = 0; c < 40; c++) {
            x.category(c % 5, NONE);
            CHECK.same("categories", x.count(1), c + 1);
        }
        for (int d = 0; d < 40; d++) {
            x.document(d);
            CHECK.same("that have been", x.count(2), d + 1);
            CHECK.same("that are there", x.count(3), d / 2 + 1);
            if (d % 2 == 0) {
                x.remove(d);
                CHECK.same("that are there", x.count(3), d / 2);
            }
        }
    }

    @Edge(promise = 42, words = "6: RANGES, 7: axes that are not OPEN, as bits")
    private static void countFifteenRangesAndFiveBits() {
        DrillCount x = Made.axes(2, 2, 2, 2, 2);
        for (int axis = 0; axis < 5; axis++) {
            x.range(axis, 0, 0);
            CHECK.same("bits", x.count(7), (2 << axis) - 1);
            x.range(axis, 0, 0);
            x.range(axis, 0, 0);
            CHECK.same("ranges", x.count(6), 3 * axis + 3);
        }
        x.open(0);
        CHECK.same("bits", x.count(7), 30);
        x.open(4);
        CHECK.same("bits", x.count(7), 14);
        CHECK.same("ranges", x.count(6), 9);
    }

    @Edge(promise = 42, words = "An object is used for at most 512 calls after it has been made")
    private static void countUpToTheLastOf512Calls() {
        DrillCount x = Made.full();
        for (int call = 166; call < 512; call++) {
            x.missing(call % 5, call / 5 % 2 == 1);
        }
        CHECK.same("the 512th call", x.count(8), 16);
        DrillCount y = Made.axes(0);
        for (int call = 2; call <= 511; call++) {
            CHECK.yes("call " + call, y.missing(0, call % 2 == 0));
        }
        CHECK.yes("the 512th call", y.missing(0, true));
    }

    @Edge(promise = 42, words = "8: what can be taken BACK")
    private static void countWhatCanBeTakenBack() {
        DrillCount x = Made.axes(0);
        CHECK.same("nothing", x.count(8), 0);
        for (int step = 1; step <= 20; step++) {
            x.missing(0, step % 2 == 1);
            CHECK.same("behind step " + step, x.count(8), step < 16 ? step : 16);
        }
        for (int step = 15; step >= 0; step--) {
            x.back();
            CHECK.same("behind a back()", x.count(8), step);
        }
        x.back();
        CHECK.same("nothing is left", x.count(8), 0);
    }
}
