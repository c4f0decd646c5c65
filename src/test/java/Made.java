import java.util.ArrayList;
import java.util.List;

/** Objects for tests, and numbers that are outside of what a call takes. */
final class Made {

    static final int NONE = DrillCount.NONE;
    static final int MIN = Integer.MIN_VALUE;
    static final int MAX = Integer.MAX_VALUE;

    /** Far out, and where a shift by the number, or a cast of it to less bits, would wrap around. */
    private static final int[] FAR = {
        MIN, MIN + 1, -65536, -1000, -256, -65, -64, -63, -33, -32, -31, -2, -1,
        31, 32, 33, 40, 41, 63, 64, 65, 96, 127, 128, 256, 512, 1000, 65536, MAX - 1, MAX,
    };

    private Made() {
    }

    /** The first ints outside of low to high, and some far out. */
    static int[] outside(int low, int high) {
        List<Integer> all = new ArrayList<>(List.of(low - 1, high + 1));
        for (int number : FAR) {
            if (number < low - 1 || number > high + 1) {
                all.add(number);
            }
        }
        return all.stream().mapToInt(Integer::intValue).toArray();
    }

    /** A new object with axes of these kinds. */
    static DrillCount axes(int... kinds) {
        DrillCount x = new DrillCount();
        for (int kind : kinds) {
            x.axis(kind);
        }
        return x;
    }

    /** So many categories at the top of an axis. */
    static void flat(DrillCount x, int axis, int many) {
        for (int c = 0; c < many; c++) {
            x.category(axis, NONE);
        }
    }

    /** So many categories, the first at the top, each other one below the one ahead of it. */
    static void chain(DrillCount x, int axis, int many) {
        int below = NONE;
        for (int c = 0; c < many; c++) {
            below = x.category(axis, below);
        }
    }

    static int document(DrillCount x, int score, int... categories) {
        int made = x.document(score);
        for (int category : categories) {
            x.tag(made, category, true);
        }
        return made;
    }

    static void documents(DrillCount x, int many) {
        for (int d = 0; d < many; d++) {
            x.document(50);
        }
    }

    /** Axis 0 NUMBER, with a document for each of these numbers, of equal scores. */
    static DrillCount numbered(int... numbers) {
        DrillCount x = axes(2);
        for (int number : numbers) {
            x.number(x.document(50), 0, number);
        }
        return x;
    }

    /**
     * All that an object may hold, by 165 calls, nothing selected. Axis 0 ANY: 0 to 5, each below
     * the one ahead of it. Axis 1 ALL: 6 to 17, at the top. Axis 2 NUMBER, nobody has one. Axis 3
     * ANY: 18 to 39, at the top. Axis 4 NUMBER. Document d has score d, category d, number d - 20.
     */
    static DrillCount full() {
        DrillCount x = axes(0, 1, 2, 0, 2);
        chain(x, 0, 6);
        flat(x, 1, 12);
        flat(x, 3, 22);
        for (int d = 0; d < 40; d++) {
            x.document(d);
            x.tag(d, d, true);
            x.number(d, 4, d - 20);
        }
        return x;
    }

    /**
     * Three axes with a little of everything, by 38 calls, nothing selected; what it answers is
     * worked out by hand in the tests. Axis 0 ANY: 0 with 1 and 2 below it, 3 below 1; 4. Axis 1
     * ALL: 5 with 6 below it; 7. Axis 2 NUMBER. In ORDER the documents are 3, 1, 5, 0, 2, 4.
     */
    static DrillCount shop() {
        DrillCount x = axes(0, 1, 2);
        int[] belows = {NONE, 0, 0, 1, NONE};
        for (int below : belows) {
            x.category(0, below);
        }
        x.category(1, NONE);
        x.category(1, 5);
        x.category(1, NONE);
        int[] scores = {50, 80, 50, 99, 10, 80};
        int[][] tags = {{3, 5}, {1, 2, 6}, {2, 7}, {4, 6, 7}, {}, {0, 4, 5, 7}};
        int[] numbers = {10, 20, 20, 30};
        for (int d = 0; d < scores.length; d++) {
            document(x, scores[d], tags[d]);
            if (d < numbers.length) {
                x.number(d, 2, numbers[d]);
            }
        }
        return x;
    }
}
