/** Promises 10 to 15: what is selected, and taking it back. */
public final class SelectTest {

    private static final int NONE = DrillCount.NONE;
    private static final Check CHECK = new Check();

    public static void main(String[] args) {
        promise10();
        promise10All();
        promise11();
        promise12();
        promise13();
        promise13All();
        promise14();
        promise15();
        promise15Sixteen();
        CHECK.end("SelectTest");
    }

    /** Axis 0 ANY with 0 and 1 at the top, axis 1 ALL with 2 and 3, axis 2 NUMBER. */
    private static DrillCount three() {
        DrillCount x = new DrillCount();
        x.axis(0);
        x.axis(1);
        x.axis(2);
        x.category(0, NONE);
        x.category(0, NONE);
        x.category(1, NONE);
        x.category(1, NONE);
        for (int d = 0; d < 4; d++) {
            x.document(50 - d);
        }
        x.tag(0, 0, true);
        x.tag(1, 1, true);
        x.tag(2, 0, true);
        x.tag(2, 1, true);
        x.tag(0, 2, true);
        x.tag(1, 2, true);
        x.tag(1, 3, true);
        x.number(0, 2, 10);
        x.number(1, 2, 20);
        x.number(2, 2, 30);
        return x;
    }

    private static void promise10() {
        DrillCount x = three();
        CHECK.no("select(-1, true)", x.select(-1, true));
        CHECK.no("select(4, true)", x.select(4, true));
        CHECK.no("select(0, false), it is not", x.select(0, false));
        CHECK.yes("select(0, true)", x.select(0, true));
        CHECK.no("select(0, true) again", x.select(0, true));
        CHECK.same("of(0, 3)", x.of(0, 3), 1);
        CHECK.same("of(1, 3)", x.of(1, 3), 0);
        CHECK.same("hits that have 0", x.count(4), 2);
        CHECK.yes("select(1, true)", x.select(1, true));
        CHECK.same("hits that have 0 or 1", x.count(4), 3);
        CHECK.yes("select(0, false)", x.select(0, false));
        CHECK.same("hits that have 1", x.count(4), 2);
        CHECK.same("the first", x.hit(0), 1);
        CHECK.yes("select(1, false)", x.select(1, false));
        CHECK.same("all are hits again", x.count(4), 4);
        CHECK.same("steps", x.count(8), 4);
    }

    private static void promise10All() {
        DrillCount x = three();
        x.select(2, true);
        CHECK.same("hits that have 2", x.count(4), 2);
        x.select(3, true);
        CHECK.same("hits that have 2 and 3", x.count(4), 1);
        CHECK.same("which", x.hit(0), 1);
        x.category(1, 2);
        x.tag(1, 2, false);
        CHECK.same("none has 2 and 3", x.count(4), 0);
        x.tag(1, 4, true);
        CHECK.same("one has 2 by what is below it, and 3", x.count(4), 1);
        DrillCount y = new DrillCount();
        y.axis(1);
        y.category(0, NONE);
        y.category(0, NONE);
        y.document(1);
        y.tag(0, 1, true);
        y.select(0, true);
        y.select(1, true);
        CHECK.same("the lowest category counts, too", y.count(4), 0);
    }

    private static void promise11() {
        DrillCount x = three();
        CHECK.same("range on ANY", x.range(0, 0, 9), NONE);
        CHECK.same("range on ALL", x.range(1, 0, 9), NONE);
        CHECK.same("range(-1, 0, 9)", x.range(-1, 0, 9), NONE);
        CHECK.same("range(3, 0, 9)", x.range(3, 0, 9), NONE);
        CHECK.same("low above high", x.range(2, 11, 10), NONE);
        CHECK.same("MAX to MIN", x.range(2, Integer.MAX_VALUE, Integer.MIN_VALUE), NONE);
        CHECK.same("no step was made", x.count(8), 0);
        CHECK.same("range(2, 20, 20)", x.range(2, 20, 20), 0);
        CHECK.same("hits", x.count(4), 1);
        CHECK.same("range(2, 25, 30)", x.range(2, 25, 30), 1);
        CHECK.same("hits, the end too", x.count(4), 2);
        CHECK.same("range(2, 10, 11)", x.range(2, 10, 11), 2);
        CHECK.same("hits, the beginning too", x.count(4), 3);
        CHECK.same("a fourth range", x.range(2, MIN, MAX), NONE);
        x.drop(2, 0);
        CHECK.same("range(2, MIN, MAX)", x.range(2, MIN, MAX), 2);
        CHECK.same("hits: who has none is not in it", x.count(4), 3);
        CHECK.same("ranges", x.count(6), 3);
        x.axis(2);
        CHECK.same("range of another axis", x.range(3, 0, 0), 0);
        CHECK.same("ranges", x.count(6), 4);
    }

    private static final int MIN = Integer.MIN_VALUE;
    private static final int MAX = Integer.MAX_VALUE;

    private static void promise12() {
        DrillCount x = three();
        CHECK.no("drop(2, 0), none there", x.drop(2, 0));
        x.range(2, 10, 10);
        x.range(2, 20, 20);
        x.range(2, 30, 30);
        CHECK.no("drop(2, -1)", x.drop(2, -1));
        CHECK.no("drop(2, 3)", x.drop(2, 3));
        CHECK.no("drop(0, 0)", x.drop(0, 0));
        CHECK.no("drop(-1, 0)", x.drop(-1, 0));
        CHECK.no("drop(3, 0)", x.drop(3, 0));
        CHECK.same("steps", x.count(8), 3);
        CHECK.yes("drop(2, 0)", x.drop(2, 0));
        CHECK.same("hits", x.count(4), 2);
        CHECK.same("the first", x.hit(0), 1);
        CHECK.yes("drop(2, 1), the one that was the third", x.drop(2, 1));
        CHECK.same("hits", x.count(4), 1);
        CHECK.same("which", x.hit(0), 1);
        CHECK.no("drop(2, 1)", x.drop(2, 1));
        CHECK.yes("drop(2, 0), the last", x.drop(2, 0));
        CHECK.same("the axis is open", x.count(7), 0);
        CHECK.same("hits", x.count(4), 4);
    }

    private static void promise13() {
        DrillCount x = three();
        CHECK.no("missing(-1, true)", x.missing(-1, true));
        CHECK.no("missing(3, true)", x.missing(3, true));
        CHECK.no("missing(0, false)", x.missing(0, false));
        CHECK.yes("missing(0, true)", x.missing(0, true));
        CHECK.no("missing(0, true) again", x.missing(0, true));
        CHECK.same("hits that are missing on 0", x.hit(0), 3);
        CHECK.same("how many", x.count(4), 1);
        x.select(1, true);
        CHECK.same("or that have 1", x.count(4), 3);
        CHECK.yes("missing(0, false)", x.missing(0, false));
        CHECK.same("that have 1", x.count(4), 2);
        x.open(0);
        x.range(2, 10, 15);
        x.missing(2, true);
        CHECK.same("in the range or without a number", x.count(4), 2);
        CHECK.same("the last of them", x.hit(1), 3);
        x.unnumber(2, 2);
        CHECK.same("one more has no number", x.count(4), 3);
    }

    private static void promise13All() {
        DrillCount x = three();
        CHECK.yes("missing(1, true)", x.missing(1, true));
        CHECK.same("hits that are missing on 1", x.count(4), 2);
        CHECK.same("the first", x.hit(0), 2);
        x.select(2, true);
        CHECK.same("none has 2 and is missing", x.count(4), 0);
        x.missing(1, false);
        CHECK.same("that have 2", x.count(4), 2);
    }

    private static void promise14() {
        DrillCount x = three();
        CHECK.no("open(0), it is", x.open(0));
        CHECK.no("open(-1)", x.open(-1));
        CHECK.no("open(3)", x.open(3));
        x.select(0, true);
        x.missing(0, true);
        x.select(2, true);
        CHECK.yes("open(0)", x.open(0));
        CHECK.same("of(0, 3)", x.of(0, 3), 0);
        CHECK.same("axis 1 stays", x.count(7), 2);
        CHECK.no("open(0) again", x.open(0));
        x.missing(2, true);
        CHECK.yes("open(2), only missing was selected", x.open(2));
        x.range(2, 0, 1);
        CHECK.yes("open(2), only a range was", x.open(2));
        CHECK.same("ranges", x.count(6), 0);
        CHECK.yes("open(1), only a category was", x.open(1));
        CHECK.same("all open", x.count(7), 0);
        CHECK.same("hits", x.count(4), 4);
    }

    private static void promise15() {
        DrillCount x = three();
        CHECK.no("back(), nothing was", x.back());
        x.range(2, 10, 10);
        x.range(2, 20, 20);
        x.missing(2, true);
        x.drop(2, 0);
        x.open(2);
        x.select(0, true);
        x.select(0, true);
        x.range(2, 5, 4);
        CHECK.same("what could not be done is no step", x.count(8), 6);
        CHECK.yes("back() of select", x.back());
        CHECK.same("of(0, 3)", x.of(0, 3), 0);
        CHECK.yes("back() of open", x.back());
        CHECK.same("hits: 1 and 3", x.count(4), 2);
        CHECK.yes("back() of drop", x.back());
        CHECK.same("hits: 0, 1 and 3", x.count(4), 3);
        x.drop(2, 1);
        CHECK.same("hits: 0 and 3, the ranges stood as ahead", x.count(4), 2);
        CHECK.yes("back() of this drop", x.back());
        CHECK.yes("back() of missing", x.back());
        CHECK.same("hits: 0 and 1", x.count(4), 2);
        CHECK.yes("back() of the second range", x.back());
        CHECK.same("ranges", x.count(6), 1);
        CHECK.yes("back() of the first range", x.back());
        CHECK.same("all open", x.count(7), 0);
        CHECK.no("back(), nothing is left", x.back());
        CHECK.same("steps", x.count(8), 0);
    }

    private static void promise15Sixteen() {
        DrillCount x = three();
        for (int step = 0; step < 19; step++) {
            x.missing(0, step % 2 == 0);
            CHECK.same("steps", x.count(8), Math.min(step + 1, 16));
        }
        x.select(2, true);
        CHECK.same("steps stay", x.count(8), 16);
        for (int step = 16; step > 0; step--) {
            CHECK.same("steps", x.count(8), step);
            CHECK.yes("back()", x.back());
        }
        CHECK.no("the seventeenth back()", x.back());
        CHECK.same("the first four stay done", x.count(7), 0);
        x.missing(0, true);
        CHECK.same("a step behind it", x.count(8), 1);
        CHECK.yes("back()", x.back());
        CHECK.same("all open", x.count(7), 0);
    }
}
