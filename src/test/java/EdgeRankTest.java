import java.io.IOException;

/** Promises 31 to 38 and 40, each boundary that the document names by a test of its own. */
public final class EdgeRankTest {

    private static final int NONE = DrillCount.NONE;
    private static final Check CHECK = new Check();

    public static void main(String[] args) throws IOException {
        Edges.run(EdgeRankTest.class, CHECK, 31, 32, 33, 34, 35, 36, 37, 38, 40);
    }

    /** Axis 0 of this kind with so many categories at the top. */
    private static DrillCount flat(int kind, int categories) {
        DrillCount x = Made.axes(kind);
        Made.flat(x, 0, categories);
        return x;
    }

    // ---- 31: top

    @Edge(promise = 31, words = "above a CUT (0 to 40)")
    private static void topAboveCutsZeroToForty() {
        DrillCount x = flat(0, 1);
        for (int d = 0; d < 40; d++) {
            Made.document(x, 50, 0);
        }
        CHECK.allSame("cut", Made.outside(0, 40), c -> x.top(0, c, 0), NONE);
        for (int cut = 0; cut < 40; cut++) {
            CHECK.same("40 is more than " + cut, x.top(0, cut, 0), 0);
        }
        CHECK.same("40 is not more than 40", x.top(0, 40, 0), NONE);
    }

    @Edge(promise = 31, words = "CATEGORIES of which SHOWN is more than it")
    private static void topJustAboveTheCut() {
        DrillCount x = flat(0, 3);
        Made.document(x, 50, 0, 1);
        Made.document(x, 50, 0);
        CHECK.same("above 0, the first", x.top(0, 0, 0), 0);
        CHECK.same("above 0, the second", x.top(0, 0, 1), 1);
        CHECK.same("above 0, 2 shows none", x.top(0, 0, 2), NONE);
        CHECK.same("above 1, the first", x.top(0, 1, 0), 0);
        CHECK.same("above 1, 1 shows just 1", x.top(0, 1, 1), NONE);
        CHECK.same("above 2", x.top(0, 2, 0), NONE);
    }

    @Edge(promise = 31, words = "NONE: others, none such")
    private static void topFromTheFirstToTheLast() {
        DrillCount x = flat(0, 40);
        CHECK.same("no document", x.top(0, 0, 0), NONE);
        x.document(50);
        for (int c = 0; c < 40; c++) {
            x.tag(0, c, true);
            CHECK.same("the last", x.top(0, 0, c), c);
            CHECK.same("behind the last", x.top(0, 0, c + 1), NONE);
        }
        CHECK.allSame("i", Made.outside(0, 39), i -> x.top(0, 0, i), NONE);
    }

    @Edge(promise = 31, words = "NONE: others")
    private static void topOfNoAxis() {
        DrillCount x = new DrillCount();
        CHECK.same("none there", x.top(0, 0, 0), NONE);
        DrillCount full = Made.full();
        CHECK.allSame("axis", Made.outside(0, 4), a -> full.top(a, 0, 0), NONE);
        CHECK.same("NUMBER", full.top(2, 0, 0), NONE);
        CHECK.same("NUMBER", full.top(4, 0, 0), NONE);
        CHECK.same("axis 0", full.top(0, 0, 0), 0);
        CHECK.same("axis 3", full.top(3, 0, 21), 39);
        CHECK.same("axis without a category", Made.axes(0).top(0, 0, 0), NONE);
    }

    @Edge(promise = 31, words = "by SHOWN, downwards, of equal ones by numbers")
    private static void topOfEqualOnesByNumbers() {
        DrillCount x = flat(1, 4);
        Made.document(x, 50, 3, 1, 0);
        Made.document(x, 50, 3, 1);
        int[] due = {1, 3, 0, NONE};
        for (int i = 0; i < due.length; i++) {
            CHECK.same("top(0, 0, " + i + ")", x.top(0, 0, i), due[i]);
        }
        x.select(0, true);
        int[] hits = {0, 1, 3, NONE};
        for (int i = 0; i < hits.length; i++) {
            CHECK.same("ALL: of the hits", x.top(0, 0, i), hits[i]);
        }
    }

    // ---- 32: read

    @Edge(promise = 32, words = "READ for k (1 to 9) of an axis")
    private static void readForOneToNine() {
        DrillCount x = flat(0, 12);
        CHECK.allSame("k, no document", Made.outside(1, 9), k -> x.read(0, k), NONE);
        for (int k = 1; k <= 9; k++) {
            CHECK.same("nothing to read", x.read(0, k), 0);
        }
        Made.document(x, 50, 11);
        CHECK.allSame("k", Made.outside(1, 9), k -> x.read(0, k), NONE);
        CHECK.same("k 1", x.read(0, 1), 1);
        CHECK.same("k 9", x.read(0, 9), 1);
    }

    @Edge(promise = 32, words = "NONE: others")
    private static void readOfNoAxis() {
        DrillCount x = new DrillCount();
        CHECK.same("none there", x.read(0, 1), NONE);
        DrillCount full = Made.full();
        CHECK.allSame("axis", Made.outside(0, 4), a -> full.read(a, 1), NONE);
        CHECK.same("NUMBER", full.read(2, 1), NONE);
        CHECK.same("NUMBER", full.read(4, 1), NONE);
        CHECK.same("axis 3: all have one each", full.read(3, 1), 40);
        CHECK.same("axis 0: 0 has as many as 1 and one more", full.read(0, 1), 40);
    }

    @Edge(promise = 32, words = "all, if there are no more")
    private static void readWhereThereAreNoMore() {
        for (int many = 0; many <= 10; many++) {
            DrillCount x = flat(0, many);
            Made.documents(x, 5);
            for (int k = 1; k <= 9; k++) {
                CHECK.same(k + " of " + many, x.read(0, k), many <= k ? 0 : 5);
            }
        }
    }

    @Edge(promise = 32, words = "how many are read at least till that is so (0, too)")
    private static void readFromNoneToForty() {
        DrillCount x = flat(0, 2);
        CHECK.same("none there", x.read(0, 1), 0);
        for (int d = 0; d < 40; d++) {
            Made.document(x, 99 - d, 0);
            CHECK.same("of " + (d + 1) + ", 0 is lower", x.read(0, 1), (d + 2) / 2);
        }
        DrillCount y = flat(0, 2);
        for (int d = 0; d < 40; d++) {
            Made.document(y, 99 - d, d % 2);
        }
        CHECK.same("one after the other", y.read(0, 1), 39);
        y.tag(0, 0, false);
        CHECK.same("1 is ahead at last", y.read(0, 1), 40);
    }

    @Edge(promise = 32, words = "or as many and is lower")
    private static void readOfEqualOnes() {
        DrillCount low = flat(0, 2);
        DrillCount high = flat(0, 2);
        for (int d = 0; d < 40; d++) {
            Made.document(low, 50, 0);
            Made.document(high, 50, 1);
        }
        CHECK.same("20 against 20, 0 is lower", low.read(0, 1), 20);
        CHECK.same("20 against 20, 1 is not", high.read(0, 1), 21);
        low.remove(39);
        high.remove(39);
        CHECK.same("20 against 19", low.read(0, 1), 20);
        CHECK.same("20 against 19", high.read(0, 1), 20);
        DrillCount all = flat(0, 3);
        Made.document(all, 50, 0, 1, 2);
        CHECK.same("all equal at the end", all.read(0, 1), 1);
        CHECK.same("all equal at the end", all.read(0, 2), 1);
    }

    @Edge(promise = 32, words = "the k with the most so far (of equal ones the lowest")
    private static void readNineOfTen() {
        DrillCount x = flat(0, 10);
        for (int d = 0; d < 4; d++) {
            Made.document(x, 50, 0, 1, 2, 3, 4, 5, 6, 7, 8);
        }
        CHECK.same("nine of ten, 9 is the highest", x.read(0, 9), 2);
        CHECK.same("eight of ten: 8 has as many as 7", x.read(0, 8), 4);
        DrillCount y = flat(0, 10);
        for (int d = 0; d < 4; d++) {
            Made.document(y, 50, 1, 2, 3, 4, 5, 6, 7, 8, 9);
        }
        CHECK.same("nine of ten, 0 is the lowest", y.read(0, 9), 3);
    }

    @Edge(promise = 32, words = "if each of them has more than any other CATEGORY of the axis has together with all that are not read yet")
    private static void readTillEachIsFarEnoughAhead() {
        DrillCount x = flat(0, 3);
        for (int d = 0; d < 7; d++) {
            Made.document(x, 50, 1, 2);
        }
        CHECK.same("4 against 3", x.read(0, 2), 4);
        Made.document(x, 50, 1, 2);
        CHECK.same("4 against 4 is not more, 5 against 3 is", x.read(0, 2), 5);
        x.remove(7);
        for (int d = 3; d < 7; d++) {
            x.tag(d, 2, false);
        }
        CHECK.same("2 has three, two are not read yet", x.read(0, 2), 5);
        CHECK.same("1 alone has four, three are not", x.read(0, 1), 5);
    }

    @Edge(promise = 32, words = "a CATEGORY has as many so far as of those read SHOWN would count")
    private static void readCountsWhatShownWould() {
        for (int kind = 0; kind <= 1; kind++) {
            DrillCount x = flat(kind, 3);
            for (int d = 0; d < 4; d++) {
                Made.document(x, 50, 0);
            }
            CHECK.same("two of four", x.read(0, 1), 2);
            x.select(2, true);
            CHECK.same("ANY: lifted, ALL: no hit", x.read(0, 1), kind == 0 ? 2 : 4);
            x.open(0);
            x.axis(2);
            x.number(2, 1, 1);
            x.number(3, 1, 1);
            x.range(1, 1, 1);
            CHECK.same("only 2 and 3 count, all are read", x.read(0, 1), 3);
        }
    }

    @Edge(promise = 32, words = "the k with the most so far (of equal ones the lowest")
    private static void readWhereOthersCatchUp() {
        DrillCount x = flat(0, 3);
        Made.document(x, 90, 2);
        Made.document(x, 80, 1);
        Made.document(x, 70, 0);
        CHECK.same("all have one in the end", x.read(0, 1), 3);
        CHECK.same("two of them", x.read(0, 2), 3);
        Made.document(x, 60, 0);
        CHECK.same("0 has two, 1 and 2 have one", x.read(0, 1), 4);
        Made.document(x, 95, 0);
        CHECK.same("0 has one more from the start", x.read(0, 1), 4);
        DrillCount y = flat(0, 3);
        Made.document(y, 90, 2);
        Made.document(y, 80, 1);
        Made.document(y, 70, 1);
        Made.document(y, 60, 1);
        CHECK.same("2 leads, 1 catches up and is lower", y.read(0, 1), 3);
    }

    @Edge(promise = 32, words = "those THERE are read in ORDER")
    private static void readInOrder() {
        DrillCount x = flat(0, 2);
        Made.document(x, 0, 1);
        Made.document(x, 99, 0);
        Made.document(x, 99, 0);
        Made.document(x, 50, 1);
        CHECK.same("1, 2, then it is sure", x.read(0, 1), 2);
        x.remove(1);
        CHECK.same("2, 3, 0", x.read(0, 1), 3);
    }

    // ---- 33: path

    @Edge(promise = 33, words = "NONE: others, none such")
    private static void pathDownToLevelFive() {
        DrillCount x = Made.full();
        for (int i = 0; i <= 5; i++) {
            CHECK.same("path(0, " + i + ")", x.path(0, i), i);
        }
        CHECK.allSame("i", Made.outside(0, 5), i -> x.path(0, i), NONE);
        CHECK.same("a flat axis", x.path(3, 0), 18);
        CHECK.allSame("i, of a flat axis", Made.outside(0, 0), i -> x.path(3, i), NONE);
    }

    @Edge(promise = 33, words = "NONE: others")
    private static void pathOfNoAxis() {
        DrillCount x = new DrillCount();
        CHECK.same("none there", x.path(0, 0), NONE);
        DrillCount full = Made.full();
        CHECK.allSame("axis", Made.outside(0, 4), a -> full.path(a, 0), NONE);
        CHECK.same("NUMBER", full.path(2, 0), NONE);
        CHECK.same("NUMBER", full.path(4, 0), NONE);
        CHECK.same("axis without a category", Made.axes(0).path(0, 0), NONE);
    }

    @Edge(promise = 33, words = "as long as that is above 0")
    private static void pathEndsWhereNothingIsShown() {
        DrillCount x = Made.axes(0);
        Made.chain(x, 0, 6);
        CHECK.same("no document", x.path(0, 0), NONE);
        x.document(50);
        for (int c = 0; c < 6; c++) {
            x.tag(0, c, true);
            CHECK.same("path(0, " + c + ")", x.path(0, c), c);
            CHECK.same("and no further", x.path(0, c + 1), NONE);
            x.tag(0, c, false);
        }
        CHECK.same("no tag any more", x.path(0, 0), NONE);
    }

    @Edge(promise = 33, words = "the one with the most SHOWN of those right below (at the top), of equal ones the lowest")
    private static void pathOfEqualOnesTheLowest() {
        DrillCount x = flat(0, 40);
        x.move(38, 39);
        x.move(37, 39);
        Made.document(x, 50, 38, 37, 36);
        CHECK.same("36 and 39", x.path(0, 0), 36);
        Made.document(x, 50, 39);
        CHECK.same("39 shows one more", x.path(0, 0), 39);
        CHECK.same("37 and 38", x.path(0, 1), 37);
        Made.document(x, 50, 38);
        CHECK.same("38 shows one more", x.path(0, 1), 38);
        CHECK.same("nothing is below it", x.path(0, 2), NONE);
    }

    // ---- 34: split

    @Edge(promise = 34, words = "NONE: none is not SELECTED")
    private static void splitWhereAllAreSelected() {
        DrillCount x = new DrillCount();
        CHECK.same("no axis", x.split(), NONE);
        x.axis(0);
        x.document(50);
        CHECK.same("no category", x.split(), NONE);
        Made.flat(x, 0, 1);
        CHECK.same("the only one", x.split(), 0);
        x.select(0, true);
        CHECK.same("it is selected", x.split(), NONE);
        x.back();
        CHECK.same("it is not any more", x.split(), 0);
        DrillCount full = Made.full();
        for (int c = 0; c < 40; c++) {
            if (c != 39) {
                full.select(c, true);
            }
        }
        CHECK.same("the 40th is left", full.split(), 39);
        full.select(39, true);
        CHECK.same("none is left", full.split(), NONE);
    }

    @Edge(promise = 34, words = "that of which SHOWN, doubled, is nearest to how many HITS there are, of equal ones the lowest")
    private static void splitNearestToHalf() {
        DrillCount x = flat(0, 4);
        CHECK.same("all are 0 of 0", x.split(), 0);
        for (int d = 0; d < 40; d++) {
            Made.document(x, 50, 3);
            if (d < 19) {
                x.tag(d, 2, true);
            }
            if (d < 21) {
                x.tag(d, 1, true);
            }
        }
        CHECK.same("21 and 19 of 40 are as near", x.split(), 1);
        x.tag(19, 2, true);
        CHECK.same("20 of 40", x.split(), 2);
        x.select(2, true);
        CHECK.same("20 hits: 0 is 20 off, 1 is 22 off", x.split(), 0);
        x.tag(20, 1, false);
        CHECK.same("20 hits: 0 and 1 are 20 off", x.split(), 0);
        x.tag(19, 1, false);
        CHECK.same("20 hits: 1 is 18 off", x.split(), 1);
    }

    @Edge(promise = 34, words = "of all CATEGORIES that are not SELECTED")
    private static void splitOverAllAxes() {
        DrillCount x = Made.axes(0, 1, 2, 2, 1);
        Made.flat(x, 0, 1);
        Made.flat(x, 1, 1);
        Made.flat(x, 4, 1);
        Made.document(x, 50, 1);
        Made.document(x, 50, 1);
        CHECK.same("0 and 2 of 2 are as near", x.split(), 0);
        x.tag(0, 2, true);
        CHECK.same("1 of 2, on the last axis", x.split(), 2);
    }

    // ---- 35: cover

    @Edge(promise = 35, words = "NONE: others, none such")
    private static void coverFromTheFirstToTheLast() {
        DrillCount x = flat(0, 12);
        for (int many = 0; many <= 12; many++) {
            int last = many - 1;
            CHECK.same("how many", x.cover(0, NONE), many);
            CHECK.allSame("i, of " + many, Made.outside(NONE, last), i -> x.cover(0, i), NONE);
            for (int i = 0; i < many && many % 6 == 0; i++) {
                CHECK.same("the " + i + "-th", x.cover(0, i), i);
            }
            Made.document(x, 50, Math.min(many, 11));
        }
    }

    @Edge(promise = 35, words = "NONE: others")
    private static void coverOfNoAxis() {
        DrillCount x = new DrillCount();
        CHECK.same("none there", x.cover(0, NONE), NONE);
        DrillCount full = Made.full();
        CHECK.allSame("axis, how many", Made.outside(0, 4), a -> full.cover(a, NONE), NONE);
        CHECK.allSame("axis, the first", Made.outside(0, 4), a -> full.cover(a, 0), NONE);
        CHECK.same("NUMBER", full.cover(2, NONE), NONE);
        CHECK.same("NUMBER", full.cover(4, NONE), NONE);
        CHECK.same("axis 1", full.cover(1, NONE), 12);
        CHECK.same("axis 1, the last", full.cover(1, 11), 17);
    }

    @Edge(promise = 35, words = "0, if nothing is to be covered")
    private static void coverOfNothing() {
        DrillCount x = Made.axes(0);
        CHECK.same("no category, no document", x.cover(0, NONE), 0);
        CHECK.same("the first of none", x.cover(0, 0), NONE);
        x.document(50);
        CHECK.same("one that is missing", x.cover(0, NONE), 0);
        Made.flat(x, 0, 1);
        CHECK.same("one that is missing", x.cover(0, NONE), 0);
        x.tag(0, 0, true);
        CHECK.same("one to be covered", x.cover(0, NONE), 1);
        x.missing(0, true);
        CHECK.same("no hit", x.cover(0, NONE), 0);
        x.open(0);
        x.remove(0);
        CHECK.same("no document", x.cover(0, NONE), 0);
    }

    @Edge(promise = 35, words = "there is none")
    private static void coverThatIsNotThere() {
        DrillCount x = Made.axes(0);
        Made.chain(x, 0, 2);
        Made.document(x, 50, 1);
        CHECK.same("1 does", x.cover(0, 0), 1);
        x.tag(0, 0, true);
        CHECK.same("1 still does", x.cover(0, NONE), 1);
        x.tag(0, 1, false);
        CHECK.same("0 is at the top with one below", x.cover(0, NONE), NONE);
        CHECK.same("nor the first", x.cover(0, 0), NONE);
        x.move(1, NONE);
        CHECK.same("0 is without any below it", x.cover(0, NONE), 1);
        CHECK.same("the first", x.cover(0, 0), 0);
    }

    @Edge(promise = 35, words = "more than 12 such CATEGORIES are on the axis")
    private static void coverOfTwelveAndNotOfThirteen() {
        for (int kind = 0; kind <= 1; kind++) {
            DrillCount x = flat(kind, 12);
            Made.document(x, 50, 11);
            CHECK.same("twelve", x.cover(0, NONE), 1);
            CHECK.same("twelve, the first", x.cover(0, 0), 11);
            Made.flat(x, 0, 1);
            CHECK.same("thirteen", x.cover(0, NONE), NONE);
            CHECK.same("thirteen, the first", x.cover(0, 0), NONE);
            x.remove(0);
            CHECK.same("thirteen, nothing to be covered", x.cover(0, NONE), NONE);
            x.move(12, 0);
            CHECK.same("12 is below 0, that is none such now", x.cover(0, NONE), 0);
            x.move(12, NONE);
            CHECK.same("thirteen again", x.cover(0, NONE), NONE);
        }
    }

    @Edge(promise = 35, words = "more than 12 such CATEGORIES are on the axis")
    private static void coverCountsSuchOnesOnly() {
        DrillCount x = Made.axes(0, 0);
        Made.flat(x, 0, 6);
        for (int c = 0; c < 6; c++) {
            x.category(0, c);
            x.category(0, c);
        }
        Made.flat(x, 1, 20);
        Made.document(x, 50, 0, 17);
        Made.document(x, 50, 6);
        CHECK.same("18 on the axis, 12 such: two do", x.cover(0, NONE), 2);
        CHECK.same("the first", x.cover(0, 0), 6);
        CHECK.same("the second", x.cover(0, 1), 17);
        CHECK.same("20 on the other axis", x.cover(1, NONE), NONE);
        x.category(0, 6);
        CHECK.same("a thirteenth, at level 2", x.cover(0, NONE), NONE);
    }

    @Edge(promise = 35, words = "each of LEVEL 1 at least or without any below it")
    private static void coverByEachLevel() {
        DrillCount x = Made.axes(0);
        Made.chain(x, 0, 6);
        Made.document(x, 50, 5);
        CHECK.same("one", x.cover(0, NONE), 1);
        CHECK.same("level 1 is the lowest number", x.cover(0, 0), 1);
        Made.document(x, 50, 1);
        CHECK.same("it does for both", x.cover(0, 0), 1);
        x.move(1, NONE);
        CHECK.same("at the top with some below", x.cover(0, NONE), NONE);
        x.tag(1, 1, false);
        CHECK.same("level 1 is 2 now", x.cover(0, 0), 2);
    }

    @Edge(promise = 35, words = "of several the first by numbers (as rows, the lowest first)")
    private static void coverFirstByNumbers() {
        DrillCount x = flat(0, 12);
        Made.document(x, 50, 0, 11);
        Made.document(x, 50, 1, 10);
        CHECK.same("how many", x.cover(0, NONE), 2);
        CHECK.same("the first", x.cover(0, 0), 0);
        CHECK.same("the second", x.cover(0, 1), 1);
        Made.document(x, 50, 11, 9);
        CHECK.same("how many", x.cover(0, NONE), 2);
        CHECK.same("the first", x.cover(0, 0), 1);
        CHECK.same("the second", x.cover(0, 1), 11);
    }

    @Edge(promise = 35, words = "the fewest CATEGORIES of it")
    private static void coverIsTheFewest() {
        DrillCount x = flat(0, 3);
        int[][] tags = {{0, 1}, {0, 2}, {0, 1}, {0, 2}, {1}, {2}};
        for (int[] one : tags) {
            Made.document(x, 50, one);
        }
        CHECK.same("not by the one that most have", x.cover(0, NONE), 2);
        CHECK.same("the first", x.cover(0, 0), 1);
        CHECK.same("the second", x.cover(0, 1), 2);
        Made.document(x, 50, 0);
        CHECK.same("one has it alone", x.cover(0, NONE), 3);
        CHECK.same("the first", x.cover(0, 0), 0);
    }

    @Edge(promise = 35, words = "so that each HIT that is not MISSING there HAVEs one of them")
    private static void coverOfHitsThatAreNotMissing() {
        DrillCount x = Made.axes(0, 2);
        Made.flat(x, 0, 3);
        for (int d = 0; d < 4; d++) {
            x.document(50);
            x.number(d, 1, d);
            if (d < 3) {
                x.tag(d, d, true);
            }
        }
        CHECK.same("three, one is missing", x.cover(0, NONE), 3);
        x.range(1, 1, 9);
        CHECK.same("two are hits that are not missing", x.cover(0, NONE), 2);
        CHECK.same("the first", x.cover(0, 0), 1);
        x.select(2, true);
        CHECK.same("its own axis is not lifted", x.cover(0, NONE), 1);
        CHECK.same("the first", x.cover(0, 0), 2);
        x.open(0);
        x.drop(1, 0);
        x.range(1, 3, 3);
        CHECK.same("the only hit is missing", x.cover(0, NONE), 0);
    }

    // ---- 36: both

    @Edge(promise = 36, words = "NONE: others")
    private static void bothOfNoCategory() {
        DrillCount x = Made.axes(0);
        CHECK.same("none there", x.both(0, 0), NONE);
        Made.flat(x, 0, 1);
        CHECK.same("no document", x.both(0, 0), 0);
        CHECK.allSame("one", Made.outside(0, 0), c -> x.both(c, 0), NONE);
        CHECK.allSame("other", Made.outside(0, 0), c -> x.both(0, c), NONE);
        CHECK.allSame("both", Made.outside(0, 0), c -> x.both(c, c), NONE);
        DrillCount full = Made.full();
        CHECK.allSame("one, forty there", Made.outside(0, 39), c -> full.both(c, 39), NONE);
        CHECK.allSame("other, forty there", Made.outside(0, 39), c -> full.both(39, c), NONE);
        CHECK.same("the 40th with itself", full.both(39, 39), 1);
    }

    @Edge(promise = 36, words = "BOTH of two CATEGORIES: how many HITS HAVE both.")
    private static void bothFromNoneToForty() {
        DrillCount x = Made.axes(0, 1);
        Made.flat(x, 0, 1);
        Made.flat(x, 1, 1);
        for (int d = 0; d < 40; d++) {
            Made.document(x, 50, 0);
            CHECK.same("not yet", x.both(0, 1), d);
            x.tag(d, 1, true);
            CHECK.same("of two axes", x.both(0, 1), d + 1);
            CHECK.same("the other way", x.both(1, 0), d + 1);
        }
        x.missing(0, true);
        CHECK.same("no hit", x.both(0, 1), 0);
    }

    // ---- 37: alike

    @Edge(promise = 37, words = "NONE: others")
    private static void alikeOfNoDocument() {
        DrillCount x = new DrillCount();
        CHECK.same("none there", x.alike(0, 1), NONE);
        DrillCount full = Made.full();
        CHECK.allSame("one", Made.outside(0, 39), d -> full.alike(d, 0), NONE);
        CHECK.allSame("other", Made.outside(0, 39), d -> full.alike(0, d), NONE);
        CHECK.same("the first and the 40th", full.alike(0, 39), 0);
        CHECK.same("4 and 5", full.alike(4, 5), 5);
    }

    @Edge(promise = 37, words = "ALIKE of two unlike ones THERE")
    private static void alikeOfOneAndOfThoseAway() {
        DrillCount x = Made.full();
        for (int d : new int[] {0, 5, 39}) {
            CHECK.same("with itself", x.alike(d, d), NONE);
        }
        x.remove(5);
        CHECK.same("one is away", x.alike(5, 4), NONE);
        CHECK.same("the other is away", x.alike(4, 5), NONE);
        x.remove(4);
        CHECK.same("both are away", x.alike(4, 5), NONE);
        CHECK.same("both are there", x.alike(2, 3), 3);
    }

    @Edge(promise = 37, words = "ALIKE of two DOCUMENTS: how many CATEGORIES both HAVE.")
    private static void alikeFromNoneToForty() {
        DrillCount x = Made.axes(0, 1);
        Made.flat(x, 0, 20);
        Made.flat(x, 1, 20);
        Made.documents(x, 2);
        for (int c = 0; c < 40; c++) {
            x.tag(0, c, true);
            CHECK.same("one has it", x.alike(0, 1), c);
            x.tag(1, c, true);
            CHECK.same("both have it", x.alike(1, 0), c + 1);
        }
    }

    // ---- 38: nearest

    @Edge(promise = 38, words = "NONE: others")
    private static void nearestToNoDocument() {
        DrillCount x = new DrillCount();
        CHECK.same("none there", x.nearest(0), NONE);
        DrillCount full = Made.full();
        CHECK.allSame("document", Made.outside(0, 39), full::nearest, NONE);
        CHECK.same("the 40th", full.nearest(39), 38);
        CHECK.same("the first", full.nearest(0), 5);
    }

    @Edge(promise = 38, words = "it is not THERE, no other one is")
    private static void nearestWhereNoOtherIs() {
        DrillCount x = new DrillCount();
        x.document(0);
        CHECK.same("the only one", x.nearest(0), NONE);
        x.document(0);
        CHECK.same("one other", x.nearest(0), 1);
        CHECK.same("one other", x.nearest(1), 0);
        x.remove(1);
        CHECK.same("it is away", x.nearest(1), NONE);
        CHECK.same("the other is away", x.nearest(0), NONE);
        x.remove(0);
        CHECK.same("both are away", x.nearest(0), NONE);
    }

    @Edge(promise = 38, words = "the other one with which it is most ALIKE, of equal ones the first in ORDER")
    private static void nearestOfEqualOnes() {
        DrillCount x = flat(0, 2);
        Made.document(x, 50, 0, 1);
        Made.document(x, 50, 0);
        Made.document(x, 50, 1);
        Made.document(x, 99);
        CHECK.same("1 and 2 have one, by numbers", x.nearest(0), 1);
        CHECK.same("0 has one", x.nearest(2), 0);
        CHECK.same("none is alike, by numbers", x.nearest(3), 0);
        Made.document(x, 51, 1);
        CHECK.same("a score above", x.nearest(0), 4);
        CHECK.same("none is alike, by scores", x.nearest(3), 4);
        x.tag(1, 1, true);
        CHECK.same("one more alike", x.nearest(0), 1);
        x.missing(0, true);
        CHECK.same("no hit is asked for", x.nearest(0), 1);
    }

    // ---- 40: most

    @Edge(promise = 40, words = "NONE: no HIT")
    private static void mostOfNoHit() {
        DrillCount x = flat(0, 1);
        CHECK.same("no document", x.most(), NONE);
        x.document(0);
        CHECK.same("a hit without a category", x.most(), 0);
        x.select(0, true);
        CHECK.same("no hit", x.most(), NONE);
        x.tag(0, 0, true);
        CHECK.same("a hit again", x.most(), 0);
        x.remove(0);
        CHECK.same("it is away", x.most(), NONE);
    }

    @Edge(promise = 40, words = "MOST: the HIT that HAS the most CATEGORIES, of equal ones the first in ORDER.")
    private static void mostOfEqualOnes() {
        DrillCount x = flat(0, 40);
        for (int d = 0; d < 40; d++) {
            x.document(d < 20 ? 10 : 20);
        }
        CHECK.same("none has any, by scores, then by numbers", x.most(), 20);
        x.tag(39, 0, true);
        CHECK.same("the 40th has one", x.most(), 39);
        x.tag(0, 39, true);
        CHECK.same("the first has one, with a lower score", x.most(), 39);
        x.tag(0, 0, true);
        CHECK.same("the first has two", x.most(), 0);
        x.select(39, true);
        x.tag(0, 39, false);
        CHECK.same("no hit", x.most(), NONE);
        for (int c = 0; c < 40; c++) {
            x.tag(19, c, true);
        }
        CHECK.same("all forty", x.most(), 19);
        CHECK.same("of a full one", Made.full().most(), 5);
    }
}
