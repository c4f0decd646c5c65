/** Promises 28 to 30 and 41: bins of numbers, even rows, the middle. */
public final class NumbersTest {

    private static final int NONE = DrillCount.NONE;
    private static final Check CHECK = new Check();

    public static void main(String[] args) {
        promise28();
        promise28Near();
        promise29();
        promise30();
        promise41();
        CHECK.end("NumbersTest");
    }

    /** Axis 0 NUMBER with these numbers, axis 1 ANY with a category 0 of no document. */
    private static DrillCount with(int... numbers) {
        DrillCount x = new DrillCount();
        x.axis(2);
        x.axis(0);
        x.category(1, NONE);
        for (int d = 0; d < numbers.length; d++) {
            x.document(d);
            x.number(d, 0, numbers[d]);
        }
        return x;
    }

    private static void bins(DrillCount x, int k, int[][] due) {
        CHECK.same("bins(0, " + k + ")", x.bins(0, k), due.length);
        for (int i = 0; i < due.length; i++) {
            for (int what = 0; what < 3; what++) {
                CHECK.same("bin(0, " + k + ", " + i + ", " + what + ")", x.bin(0, k, i, what),
                        due[i][what]);
            }
        }
        CHECK.noSuch("a bin behind the last", () -> x.bin(0, k, due.length, 0));
    }

    private static void promise28() {
        DrillCount x = with(5, 1, 3, 2, 4, 6, 7);
        bins(x, 1, new int[][] {{1, 7, 7}});
        bins(x, 2, new int[][] {{1, 4, 4}, {5, 7, 3}});
        bins(x, 3, new int[][] {{1, 3, 3}, {4, 5, 2}, {6, 7, 2}});
        bins(x, 8, new int[][] {{1, 1, 1}, {2, 2, 1}, {3, 3, 1}, {4, 4, 1}, {5, 5, 1}, {6, 6, 1},
            {7, 7, 1}});
        bins(with(-9, 4, 4, 4, 4, 4, 8, 9), 3, new int[][] {{-9, 4, 6}, {8, 8, 1}, {9, 9, 1}});
        bins(with(1, 2, 9, 9, 9, 9), 3, new int[][] {{1, 2, 2}, {9, 9, 4}});
        bins(with(3, 3, 3), 4, new int[][] {{3, 3, 3}});
        CHECK.noSuch("k 0", () -> x.bin(0, 0, 0, 0));
        CHECK.noSuch("k 9", () -> x.bin(0, 9, 0, 0));
        CHECK.noSuch("i -1", () -> x.bin(0, 2, -1, 0));
        CHECK.noSuch("i MAX", () -> x.bin(0, 2, Integer.MAX_VALUE, 0));
        CHECK.noSuch("what -1", () -> x.bin(0, 2, 0, -1));
        CHECK.noSuch("what 3", () -> x.bin(0, 2, 0, 3));
        CHECK.noSuch("a tree", () -> x.bin(1, 2, 0, 0));
        CHECK.noSuch("axis -1", () -> x.bin(-1, 2, 0, 0));
        CHECK.noSuch("axis 2", () -> x.bin(2, 2, 0, 0));
    }

    private static void promise28Near() {
        DrillCount x = with(1, 2, 3, 4);
        x.range(0, 4, 4);
        CHECK.same("bin(0, 2, 1, 0), asked first", x.bin(0, 2, 1, 0), 3);
        bins(x, 2, new int[][] {{1, 2, 2}, {3, 4, 2}});
        x.tag(1, 0, true);
        x.tag(3, 0, true);
        x.select(0, true);
        bins(x, 2, new int[][] {{2, 2, 1}, {4, 4, 1}});
        x.unnumber(1, 0);
        bins(x, 2, new int[][] {{4, 4, 1}});
        x.remove(3);
        bins(x, 2, new int[][] {});
    }

    private static void promise29() {
        DrillCount x = with(7, 7, 8);
        CHECK.same("bins(0, 8)", x.bins(0, 8), 2);
        CHECK.same("bins(0, 1)", x.bins(0, 1), 1);
        CHECK.same("bins(0, 0)", x.bins(0, 0), NONE);
        CHECK.same("bins(0, 9)", x.bins(0, 9), NONE);
        CHECK.same("bins(1, 2), a tree", x.bins(1, 2), NONE);
        CHECK.same("bins(2, 2)", x.bins(2, 2), NONE);
        CHECK.same("bins(-1, 2)", x.bins(-1, 2), NONE);
        CHECK.same("bins, where none has a number", with().bins(0, 3), 0);
        DrillCount y = with(1, 2, 3, 4, 5, 5, 5);
        CHECK.same("bins(0, 4): 1 2, 3 4, 5", y.bins(0, 4), 3);
        y.remove(0);
        y.remove(1);
        CHECK.same("bins(0, 4): 3 4, 5", y.bins(0, 4), 2);
        y.remove(4);
        CHECK.same("bins(0, 4): 3, 4, 5", y.bins(0, 4), 3);
    }

    private static void promise30() {
        DrillCount x = with(1, 2, 2, 2, 3, 4, 5, 5);
        int[] due = {8, 4, 4, 3, 3, 3, 3, 3};
        for (int k = 1; k <= 8; k++) {
            CHECK.same("even(0, " + k + ")", x.even(0, k), due[k - 1]);
        }
        CHECK.same("where the bins are not the best", with(1, 1, 2, 2, 2, 3, 3).even(0, 2), 5);
        CHECK.same("rows side by side", with(1, 2, 2, 2, 2, 3, 3, 3).even(0, 2), 5);
        CHECK.same("one each", with(1, 2, 3, 4, 5).even(0, 5), 1);
        CHECK.same("none", with().even(0, 3), 0);
        CHECK.same("even(0, 0)", x.even(0, 0), NONE);
        CHECK.same("even(0, 9)", x.even(0, 9), NONE);
        CHECK.same("even(1, 2), a tree", x.even(1, 2), NONE);
        CHECK.same("even(-1, 2)", x.even(-1, 2), NONE);
        CHECK.same("even(2, 2)", x.even(2, 2), NONE);
        x.range(0, 1, 1);
        CHECK.same("its own axis lifted", x.even(0, 1), 8);
        x.select(0, true);
        CHECK.same("none near it", x.even(0, 1), 0);
    }

    private static void promise41() {
        DrillCount x = with(9, -5, 3, 3, 40);
        CHECK.same("middle(0, 0)", x.middle(0, 0), 3);
        CHECK.same("middle(0, 1)", x.middle(0, 1), 45);
        x.remove(1);
        CHECK.same("the lower of two", x.middle(0, 0), 3);
        x.unnumber(2, 0);
        CHECK.same("middle(0, 0)", x.middle(0, 0), 9);
        x.range(0, 9, 50);
        CHECK.same("of the hits", x.middle(0, 0), 9);
        CHECK.same("of the hits", x.middle(0, 1), 31);
        x.missing(0, true);
        CHECK.same("a hit without a number does not count", x.middle(0, 1), 31);
        CHECK.noSuch("what 2", () -> x.middle(0, 2));
        CHECK.noSuch("what -1", () -> x.middle(0, -1));
        CHECK.noSuch("a tree", () -> x.middle(1, 0));
        CHECK.noSuch("axis 2", () -> x.middle(2, 0));
        CHECK.noSuch("axis -1", () -> x.middle(-1, 0));
        x.select(0, true);
        CHECK.noSuch("no hit", () -> x.middle(0, 0));
        CHECK.noSuch("no hit", () -> x.middle(0, 1));
        DrillCount y = with(-999, 999);
        CHECK.same("the widest span", y.middle(0, 1), 1998);
        CHECK.same("its middle", y.middle(0, 0), -999);
    }
}
