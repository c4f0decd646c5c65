import java.io.IOException;
import java.util.Arrays;

/** Promises 28 to 30 and 41, each boundary that the document names by a test of its own. */
public final class EdgeNumbersTest {

    private static final int NONE = DrillCount.NONE;
    private static final Check CHECK = new Check();

    public static void main(String[] args) throws IOException {
        Edges.run(EdgeNumbersTest.class, CHECK, 28, 29, 30, 41);
    }

    /** An object with the numbers from 1 on, one document each. */
    private static DrillCount upTo(int many) {
        int[] numbers = new int[many];
        for (int i = 0; i < many; i++) {
            numbers[i] = i + 1;
        }
        return Made.numbered(numbers);
    }

    /** An object where so many documents have the same number. */
    private static DrillCount equal(int many, int number) {
        int[] numbers = new int[many];
        Arrays.fill(numbers, number);
        return Made.numbered(numbers);
    }

    /** Each bin as its least, its greatest number, how many. */
    private static void bins(DrillCount x, int k, int[]... due) {
        CHECK.same("bins(0, " + k + ")", x.bins(0, k), due.length);
        for (int i = 0; i < due.length; i++) {
            for (int what = 0; what <= 2; what++) {
                CHECK.same("bin(0, " + k + ", " + i + ", " + what + ")", x.bin(0, k, i, what),
                        due[i][what]);
            }
        }
        CHECK.noSuch("the next", () -> x.bin(0, k, due.length, 0));
    }

    private static int[] bin(int least, int greatest, int many) {
        return new int[] {least, greatest, many};
    }

    // ---- 28: bin

    @Edge(promise = 28, words = "BINS of a NUMBER axis, k (1 to 8)")
    private static void binForOneToEight() {
        DrillCount x = upTo(10);
        for (int what = 0; what <= 2; what++) {
            int asked = what;
            CHECK.allNoSuch("k", Made.outside(1, 8), k -> x.bin(0, k, 0, asked));
        }
        CHECK.same("k 1", x.bin(0, 1, 0, 2), 10);
        CHECK.same("k 8", x.bin(0, 8, 0, 2), 2);
    }

    @Edge(promise = 28, words = "NoSuchElementException: others, none such")
    private static void binsFromTheFirstToTheLast() {
        DrillCount x = upTo(10);
        for (int k = 1; k <= 8; k++) {
            int asked = k;
            int last = x.bins(0, k) - 1;
            CHECK.same("the last ends with the greatest", x.bin(0, k, last, 1), 10);
            CHECK.allNoSuch("i", Made.outside(0, last), i -> x.bin(0, asked, i, 2));
        }
    }

    @Edge(promise = 28, words = "what 0: its least, 1: its greatest number, 2: how many; NoSuchElementException: others")
    private static void binOfNoSuchWhat() {
        DrillCount x = upTo(4);
        CHECK.allNoSuch("what", Made.outside(0, 2), w -> x.bin(0, 2, 1, w));
        CHECK.same("what 0", x.bin(0, 2, 1, 0), 3);
        CHECK.same("what 1", x.bin(0, 2, 1, 1), 4);
        CHECK.same("what 2", x.bin(0, 2, 1, 2), 2);
    }

    @Edge(promise = 28, words = "NoSuchElementException: others")
    private static void binOfNoAxis() {
        DrillCount x = new DrillCount();
        CHECK.noSuch("none there", () -> x.bin(0, 1, 0, 0));
        DrillCount full = Made.full();
        CHECK.allNoSuch("axis", Made.outside(0, 4), a -> full.bin(a, 1, 0, 2));
        CHECK.noSuch("ANY", () -> full.bin(0, 1, 0, 2));
        CHECK.noSuch("ALL", () -> full.bin(1, 1, 0, 2));
        CHECK.noSuch("nobody has a number", () -> full.bin(2, 1, 0, 2));
        CHECK.same("axis 4", full.bin(4, 1, 0, 2), 40);
    }

    @Edge(promise = 28, words = "fewer, if none is left")
    private static void binsOfNobodyAndOfOne() {
        DrillCount none = Made.axes(2);
        DrillCount one = Made.numbered(-999);
        for (int k = 1; k <= 8; k++) {
            bins(none, k);
            bins(one, k, bin(-999, -999, 1));
        }
        none.document(50);
        bins(none, 8);
    }

    @Edge(promise = 28, words = "fewer, if none is left")
    private static void binsFewerThanAsked() {
        bins(Made.numbered(1, 2), 8, bin(1, 1, 1), bin(2, 2, 1));
        bins(Made.numbered(1, 2), 2, bin(1, 1, 1), bin(2, 2, 1));
        bins(Made.numbered(1, 2), 1, bin(1, 2, 2));
        bins(Made.numbered(1, 9, 9, 9), 3, bin(1, 9, 4));
        bins(Made.numbered(9, 9, 9, 1, 2), 3, bin(1, 2, 2), bin(9, 9, 3));
    }

    @Edge(promise = 28, words = "each with all that have it")
    private static void binsKeepEqualOnesTogether() {
        bins(equal(40, 999), 8, bin(999, 999, 40));
        bins(equal(2, 7), 2, bin(7, 7, 2));
        bins(equal(2, 7), 8, bin(7, 7, 2));
        bins(Made.numbered(1, 7, 7), 3, bin(1, 1, 1), bin(7, 7, 2));
        bins(Made.numbered(1, 1, 1, 2), 2, bin(1, 1, 3), bin(2, 2, 1));
        bins(Made.numbered(1, 2, 2, 2), 2, bin(1, 2, 4));
        bins(Made.numbered(1, 2, 2, 3), 2, bin(1, 2, 3), bin(3, 3, 1));
        bins(Made.numbered(-999, -999, 999, 999), 2, bin(-999, -999, 2), bin(999, 999, 2));
    }

    @Edge(promise = 28, words = "till it has as many as what is left by the BINS left, cut upwards (of those not in a BIN yet, ahead of it), or more")
    private static void binsCutUpwards() {
        bins(upTo(4), 4, bin(1, 1, 1), bin(2, 2, 1), bin(3, 3, 1), bin(4, 4, 1));
        bins(upTo(5), 4, bin(1, 2, 2), bin(3, 3, 1), bin(4, 4, 1), bin(5, 5, 1));
        bins(upTo(7), 4, bin(1, 2, 2), bin(3, 4, 2), bin(5, 6, 2), bin(7, 7, 1));
        bins(upTo(8), 4, bin(1, 2, 2), bin(3, 4, 2), bin(5, 6, 2), bin(7, 8, 2));
        bins(upTo(9), 4, bin(1, 3, 3), bin(4, 5, 2), bin(6, 7, 2), bin(8, 9, 2));
    }

    @Edge(promise = 28, words = "(of those not in a BIN yet, ahead of it)")
    private static void binsGoByWhatIsLeft() {
        bins(Made.numbered(1, 1, 1, 1, 1, 2, 3, 4), 3, bin(1, 1, 5), bin(2, 3, 2), bin(4, 4, 1));
        bins(Made.numbered(1, 1, 1, 1, 1, 2, 3, 3), 3, bin(1, 1, 5), bin(2, 3, 3));
    }

    @Edge(promise = 28, words = "the k-th takes all that is left")
    private static void binsLastTakesTheRest() {
        bins(upTo(40), 1, bin(1, 40, 40));
        DrillCount x = upTo(40);
        for (int i = 0; i < 8; i++) {
            CHECK.same("five each", x.bin(0, 8, i, 2), 5);
            CHECK.same("from", x.bin(0, 8, i, 0), 5 * i + 1);
            CHECK.same("to", x.bin(0, 8, i, 1), 5 * i + 5);
        }
        CHECK.noSuch("a ninth", () -> x.bin(0, 8, 8, 0));
        bins(Made.numbered(1, 2, 3, 3, 3, 3), 2, bin(1, 3, 6));
        bins(Made.numbered(1, 2, 3, 4, 4, 4), 2, bin(1, 3, 3), bin(4, 4, 3));
    }

    @Edge(promise = 28, words = "of those NEAR it that have a number there")
    private static void binsOfThoseNear() {
        DrillCount x = Made.numbered(1, 2, 3);
        x.document(50);
        x.range(0, 2, 2);
        bins(x, 3, bin(1, 1, 1), bin(2, 2, 1), bin(3, 3, 1));
        x.axis(2);
        x.number(1, 1, 0);
        x.number(3, 1, 0);
        x.range(1, 0, 0);
        bins(x, 3, bin(2, 2, 1));
        x.missing(0, true);
        bins(x, 3, bin(2, 2, 1));
        x.remove(1);
        bins(x, 3);
    }

    @Edge(promise = 28, words = "from the least number on")
    private static void binsOfTheLeastAndTheGreatestNumber() {
        bins(Made.numbered(999, -999, 0), 3, bin(-999, -999, 1), bin(0, 0, 1), bin(999, 999, 1));
        bins(Made.numbered(999, -999), 1, bin(-999, 999, 2));
    }

    // ---- 29: bins

    @Edge(promise = 29, words = "NONE: others")
    private static void binsForOneToEight() {
        DrillCount x = upTo(9);
        CHECK.allSame("k", Made.outside(1, 8), k -> x.bins(0, k), NONE);
        DrillCount none = Made.axes(2);
        CHECK.allSame("k, nobody there", Made.outside(1, 8), k -> none.bins(0, k), NONE);
        for (int k = 1; k <= 8; k++) {
            CHECK.same("bins(0, " + k + ")", x.bins(0, k), k);
            CHECK.same("bins(0, " + k + "), nobody there", none.bins(0, k), 0);
        }
    }

    @Edge(promise = 29, words = "NONE: others")
    private static void binsOfNoAxis() {
        DrillCount x = new DrillCount();
        CHECK.same("none there", x.bins(0, 1), NONE);
        DrillCount full = Made.full();
        CHECK.allSame("axis", Made.outside(0, 4), a -> full.bins(a, 1), NONE);
        CHECK.same("ANY", full.bins(0, 1), NONE);
        CHECK.same("ALL", full.bins(1, 1), NONE);
        CHECK.same("nobody has a number", full.bins(2, 1), 0);
        CHECK.same("axis 4", full.bins(4, 8), 8);
    }

    @Edge(promise = 29, words = "fewer, if none is left")
    private static void binsNoMoreThanNumbers() {
        for (int many = 0; many <= 9; many++) {
            DrillCount x = upTo(many);
            for (int k = 1; k <= 8; k++) {
                CHECK.same(k + " bins of " + many, x.bins(0, k), Math.min(k, many));
            }
        }
        CHECK.same("forty equal ones", equal(40, 0).bins(0, 8), 1);
    }

    // ---- 30: even

    @Edge(promise = 30, words = "EVEN, k 1 to 8; NONE: others")
    private static void evenForOneToEight() {
        DrillCount x = upTo(9);
        CHECK.allSame("k", Made.outside(1, 8), k -> x.even(0, k), NONE);
        DrillCount none = Made.axes(2);
        CHECK.allSame("k, nobody there", Made.outside(1, 8), k -> none.even(0, k), NONE);
        int[] due = {9, 5, 3, 3, 2, 2, 2, 2};
        for (int k = 1; k <= 8; k++) {
            CHECK.same("even(0, " + k + ")", x.even(0, k), due[k - 1]);
        }
    }

    @Edge(promise = 30, words = "NONE: others")
    private static void evenOfNoAxis() {
        DrillCount x = new DrillCount();
        CHECK.same("none there", x.even(0, 1), NONE);
        DrillCount full = Made.full();
        CHECK.allSame("axis", Made.outside(0, 4), a -> full.even(a, 1), NONE);
        CHECK.same("ANY", full.even(0, 1), NONE);
        CHECK.same("ALL", full.even(1, 1), NONE);
        CHECK.same("nobody has a number", full.even(2, 1), 0);
        CHECK.same("axis 4", full.even(4, 8), 5);
        CHECK.same("axis 4, one row", full.even(4, 1), 40);
    }

    @Edge(promise = 30, words = "that the row with the most has (0: none)")
    private static void evenOfNobodyAndOfOne() {
        DrillCount none = Made.axes(2);
        DrillCount one = Made.numbered(0);
        for (int k = 1; k <= 8; k++) {
            CHECK.same("nobody", none.even(0, k), 0);
            CHECK.same("one", one.even(0, k), 1);
        }
        none.document(50);
        CHECK.same("one without a number", none.even(0, 8), 0);
    }

    @Edge(promise = 30, words = "of equal ones in one")
    private static void evenKeepsEqualOnesTogether() {
        for (int k = 1; k <= 8; k++) {
            CHECK.same("forty equal ones", equal(40, -999).even(0, k), 40);
            CHECK.same("2 2 2 and 1", Made.numbered(2, 1, 2, 2).even(0, k), k == 1 ? 4 : 3);
        }
    }

    @Edge(promise = 30, words = "over all ways to cut these numbers into k rows or fewer, side by side")
    private static void evenOverAllWays() {
        CHECK.same("1 | 2 2 2 | 3: bins would take 1 2 2 2", Made.numbered(1, 2, 2, 2, 3).even(0, 3), 3);
        CHECK.same("bins", Made.numbered(1, 2, 2, 2, 3).bin(0, 3, 0, 2), 4);
        CHECK.same("1 1 2 | 3 3 3", Made.numbered(1, 1, 2, 3, 3, 3).even(0, 2), 3);
        CHECK.same("not 1 and 3 in a row", Made.numbered(1, 2, 2, 2, 2, 3).even(0, 2), 5);
        CHECK.same("fewer rows than k do as well", Made.numbered(4, 4, 5).even(0, 8), 2);
    }

    @Edge(promise = 30, words = "of those NEAR it that have a number there")
    private static void evenOfThoseNear() {
        DrillCount x = upTo(4);
        x.range(0, 1, 1);
        CHECK.same("its own axis lifted", x.even(0, 2), 2);
        x.axis(2);
        x.number(0, 1, 0);
        x.range(1, 0, 0);
        CHECK.same("one is near", x.even(0, 2), 1);
        x.remove(0);
        CHECK.same("none is near", x.even(0, 2), 0);
    }

    // ---- 41: middle

    @Edge(promise = 41, words = "NoSuchElementException: others")
    private static void middleOfNoAxis() {
        DrillCount x = new DrillCount();
        DrillCount full = Made.full();
        for (int what = 0; what <= 1; what++) {
            int asked = what;
            CHECK.noSuch("none there", () -> x.middle(0, asked));
            CHECK.allNoSuch("axis", Made.outside(0, 4), a -> full.middle(a, asked));
            CHECK.noSuch("ANY", () -> full.middle(0, asked));
            CHECK.noSuch("ALL", () -> full.middle(1, asked));
        }
        CHECK.same("axis 4, of forty the lower of two", full.middle(4, 0), -1);
        CHECK.same("axis 4, span", full.middle(4, 1), 39);
    }

    @Edge(promise = 41, words = "What 0: MEDIAN, 1: SPAN; NoSuchElementException: others")
    private static void middleOfNoSuchWhat() {
        DrillCount x = upTo(3);
        CHECK.allNoSuch("what", Made.outside(0, 1), w -> x.middle(0, w));
        CHECK.same("what 0", x.middle(0, 0), 2);
        CHECK.same("what 1", x.middle(0, 1), 2);
    }

    @Edge(promise = 41, words = "no HIT has a number there")
    private static void middleOfNoHit() {
        for (int what = 0; what <= 1; what++) {
            int asked = what;
            DrillCount x = Made.axes(2);
            CHECK.noSuch("no document", () -> x.middle(0, asked));
            x.document(50);
            CHECK.noSuch("a hit without a number", () -> x.middle(0, asked));
            x.number(0, 0, 7);
            CHECK.same("one with a number", x.middle(0, asked), asked == 0 ? 7 : 0);
            x.range(0, 8, 9);
            CHECK.noSuch("it is no hit", () -> x.middle(0, asked));
            x.back();
            x.remove(0);
            CHECK.noSuch("it is not there", () -> x.middle(0, asked));
        }
    }

    @Edge(promise = 41, words = "in the midst of all these, upwards (of an even many the lower of two)")
    private static void medianOfOneToForty() {
        DrillCount x = Made.axes(2);
        for (int d = 0; d < 40; d++) {
            x.document(50);
            x.number(d, 0, 40 - d);
            CHECK.same("of " + (d + 1), x.middle(0, 0), 40 - d + d / 2);
        }
        CHECK.same("of two", Made.numbered(999, -999).middle(0, 0), -999);
        CHECK.same("equal ones count each", Made.numbered(5, 1, 5, 5).middle(0, 0), 5);
    }

    @Edge(promise = 41, words = "SPAN: their greatest less their least.")
    private static void spanFromNoneToTheWidest() {
        CHECK.same("of one", Made.numbered(-999).middle(0, 1), 0);
        CHECK.same("of equal ones", equal(40, 7).middle(0, 1), 0);
        CHECK.same("the widest", Made.numbered(999, 0, -999).middle(0, 1), 1998);
        CHECK.same("below zero", Made.numbered(-5, -9).middle(0, 1), 4);
    }

    @Edge(promise = 41, words = "MEDIAN of a NUMBER axis: of HITS with a number")
    private static void middleOfHitsOnly() {
        DrillCount x = Made.numbered(1, 2, 3, 50);
        x.document(50);
        x.range(0, 2, 50);
        x.missing(0, true);
        CHECK.same("2 3 50", x.middle(0, 0), 3);
        CHECK.same("its own axis is not lifted", x.middle(0, 1), 48);
    }
}
