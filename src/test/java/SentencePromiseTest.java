import java.io.IOException;
import java.util.stream.IntStream;

/**
 * Each promise by its whole words, in the document's order: what the call does and answers, and
 * each thing that it refuses, in one test; most of it on the shop of Made, worked out by hand.
 */
public final class SentencePromiseTest {

    private static final int NONE = DrillCount.NONE;
    private static final Check CHECK = new Check();

    public static void main(String[] args) throws IOException {
        Edges.run(SentencePromiseTest.class, CHECK, IntStream.rangeClosed(1, 42).toArray());
    }

    private static int bit(boolean answer) {
        return answer ? 1 : 0;
    }

    // ---- what there is

    @Edge(promise = 1, words = "Nothing.")
    private static void promise1() {
        DrillCount x = new DrillCount();
        CHECK.row("count", x::count, 0, 0, 0, 0, 0, 0, 0, 0, 0, NONE);
        CHECK.no("back", x.back());
        CHECK.same("the first axis", x.axis(0), 0);
        CHECK.same("the first category", x.category(0, NONE), 0);
        CHECK.same("the first document", x.document(0), 0);
    }

    @Edge(promise = 2, words = "An axis of a KIND: its number; NONE: others, five there are.")
    private static void promise2() {
        DrillCount x = new DrillCount();
        int[] kinds = {0, 2, 3, 1, -1, 0, 2, 0, 1, 2};
        CHECK.row("axis", i -> x.axis(kinds[i]), 0, 1, NONE, 2, NONE, 3, 4, NONE, NONE, NONE);
        CHECK.row("trees", axis -> x.category(axis, NONE), 0, NONE, 1, 2, NONE, NONE);
        CHECK.row("numbers", axis -> x.range(axis, 0, 0), NONE, 0, NONE, NONE, 0, NONE);
    }

    @Edge(promise = 3, words = "A CATEGORY of an axis, below one (NONE: at the top): its number; NONE:"
            + " others, of another axis, of LEVEL 6, 40 there are.")
    private static void promise3() {
        DrillCount x = Made.shop();
        CHECK.same("at the top", x.category(0, NONE), 8);
        CHECK.same("below 3", x.category(0, 3), 9);
        CHECK.same("of no axis", x.category(3, NONE), NONE);
        CHECK.same("of a NUMBER axis", x.category(2, NONE), NONE);
        CHECK.same("below no category", x.category(0, 10), NONE);
        CHECK.same("below one of another axis", x.category(0, 5), NONE);
        CHECK.same("of level 4", x.category(0, 9), 10);
        CHECK.same("of level 5", x.category(0, 10), 11);
        CHECK.same("of level 6", x.category(0, 11), NONE);
        for (int c = 12; c < 40; c++) {
            CHECK.same("more", x.category(1, 7), c);
        }
        CHECK.same("40 there are", x.category(1, 7), NONE);
        CHECK.same("of the same axis", x.of(39, 0), 1);
    }

    @Edge(promise = 4, words = "A CATEGORY comes below another one of its axis (NONE: to the top) with"
            + " all BELOW it: true; false: others, it itself or one BELOW it, one would be of LEVEL 6.")
    private static void promise4() {
        DrillCount x = Made.shop();
        CHECK.yes("1 below 4", x.move(1, 4));
        CHECK.row("levels", c -> x.of(c, 2), 0, 1, 1, 2, 0);
        CHECK.row("0 shows 1, 2 and 5, 4 all but 2 and 4", x::shown, 3, 2, 2, 1, 4);
        CHECK.no("1 below itself", x.move(1, 1));
        CHECK.no("4 below 3, which is below it", x.move(4, 3));
        CHECK.no("1 below one of another axis", x.move(1, 5));
        CHECK.no("below no category", x.move(1, 8));
        CHECK.no("no category", x.move(8, NONE));
        CHECK.yes("1 to the top", x.move(1, NONE));
        CHECK.row("levels", c -> x.of(c, 2), 0, 0, 1, 1, 0);
        x.category(0, 3);
        x.category(0, 8);
        x.category(0, 9);
        CHECK.same("1 has four levels below it", x.of(10, 2), 4);
        CHECK.no("1 below 2, which is of level 1", x.move(1, 2));
        CHECK.yes("1 below 0", x.move(1, 0));
        CHECK.same("the deepest is of level 5", x.of(10, 2), 5);
    }

    @Edge(promise = 5, words = "A DOCUMENT with a SCORE: its number; NONE: others, 40 have been.")
    private static void promise5() {
        DrillCount x = new DrillCount();
        int[] scores = {0, -1, 99, 100, 50};
        CHECK.row("document", i -> x.document(scores[i]), 0, NONE, 1, NONE, 2);
        CHECK.row("its score", d -> x.doc(d, 0), 0, 99, 50, NONE);
        x.remove(0);
        for (int d = 3; d < 40; d++) {
            CHECK.same("more", x.document(d), d);
        }
        CHECK.same("40 have been", x.document(1), NONE);
        CHECK.row("count", x::count, 0, 0, 40, 39);
    }

    @Edge(promise = 6, words = "A DOCUMENT is TAGGED with a CATEGORY, or not: true; false: others, it is so"
            + " already, it is not THERE.")
    private static void promise6() {
        DrillCount x = Made.shop();
        CHECK.no("4 has not 1", x.has(4, 1));
        CHECK.yes("tagged with 3", x.tag(4, 3, true));
        CHECK.yes("4 has 1", x.has(4, 1));
        CHECK.no("it is so already", x.tag(4, 3, true));
        CHECK.yes("not any more", x.tag(4, 3, false));
        CHECK.no("4 has not 1", x.has(4, 1));
        CHECK.no("it is so already", x.tag(4, 3, false));
        CHECK.no("it has 1, but it is not tagged with it", x.tag(0, 1, false));
        CHECK.no("no document", x.tag(6, 3, true));
        CHECK.no("no category", x.tag(4, 8, true));
        x.remove(4);
        CHECK.no("it is not there", x.tag(4, 3, true));
    }

    @Edge(promise = 7, words = "Its number on an axis: true; false: others, it is not THERE.")
    private static void promise7() {
        DrillCount x = Made.shop();
        CHECK.yes("a number", x.number(4, 2, -5));
        CHECK.same("it", x.numberOf(4, 2), -5);
        CHECK.yes("another in its place", x.number(0, 2, 999));
        CHECK.same("it", x.numberOf(0, 2), 999);
        CHECK.no("too low", x.number(0, 2, -1000));
        CHECK.no("on a tree", x.number(0, 1, 5));
        CHECK.no("on no axis", x.number(0, 3, 5));
        CHECK.no("no document", x.number(6, 2, 5));
        x.remove(1);
        CHECK.no("it is not there", x.number(1, 2, 5));
    }

    @Edge(promise = 8, words = "It has none there: true; false: others, it has none, it is not THERE.")
    private static void promise8() {
        DrillCount x = Made.shop();
        CHECK.yes("3 has 30", x.unnumber(3, 2));
        CHECK.noSuch("not any more", () -> x.numberOf(3, 2));
        CHECK.same("it is missing now", x.shownMissing(2), 3);
        CHECK.no("it has none", x.unnumber(3, 2));
        CHECK.no("on a tree", x.unnumber(0, 0));
        CHECK.no("on no axis", x.unnumber(0, 3));
        CHECK.no("no document", x.unnumber(6, 2));
        x.remove(1);
        CHECK.no("it is not there", x.unnumber(1, 2));
        CHECK.yes("another has one yet", x.unnumber(0, 2));
    }

    @Edge(promise = 9, words = "It is taken away: true; false: others, it is not THERE.")
    private static void promise9() {
        DrillCount x = Made.shop();
        CHECK.yes("1 is taken away", x.remove(1));
        CHECK.row("count", x::count, 3, 8, 6, 5, 5);
        CHECK.row("hit", x::hit, 3, 5, 0, 2, 4, NONE);
        CHECK.row("shown", x::shown, 3, 1, 1, 1, 2, 3, 1, 3);
        CHECK.no("it is not there", x.remove(1));
        CHECK.no("no document", x.remove(6));
    }

    // ---- what is selected

    @Edge(promise = 10, words = "SELECT: a CATEGORY is SELECTED, or not: true; false: others, it is so"
            + " already.")
    private static void promise10() {
        DrillCount x = Made.shop();
        CHECK.no("2 is not", x.select(2, false));
        CHECK.yes("2", x.select(2, true));
        CHECK.row("hit", x::hit, 1, 2, NONE);
        CHECK.no("it is so already", x.select(2, true));
        CHECK.yes("4, too", x.select(4, true));
        CHECK.row("hit", x::hit, 3, 1, 5, 2, NONE);
        CHECK.yes("2 no more", x.select(2, false));
        CHECK.row("hit", x::hit, 3, 5, NONE);
        CHECK.no("no category", x.select(8, true));
        CHECK.same("steps", x.count(8), 3);
    }

    @Edge(promise = 11, words = "RANGE: one more of an axis, any low no more than a high: its number; NONE:"
            + " others, three there are.")
    private static void promise11() {
        DrillCount x = Made.shop();
        CHECK.same("a low above the high", x.range(2, 11, 10), NONE);
        CHECK.same("the first", x.range(2, 10, 10), 0);
        CHECK.same("hits", x.count(4), 1);
        CHECK.same("the second", x.range(2, 25, Made.MAX), 1);
        CHECK.row("hit", x::hit, 3, 0, NONE);
        CHECK.same("on a tree", x.range(0, 0, 1), NONE);
        CHECK.same("on no axis", x.range(3, 0, 1), NONE);
        CHECK.same("the third", x.range(2, Made.MIN, 9), 2);
        CHECK.same("three there are", x.range(2, 20, 20), NONE);
        CHECK.same("ranges", x.count(6), 3);
    }

    @Edge(promise = 12, words = "DROP: the i-th RANGE is no more (those behind it are one lower): true;"
            + " false: others.")
    private static void promise12() {
        DrillCount x = Made.shop();
        x.range(2, 10, 10);
        x.range(2, 20, 20);
        x.range(2, 30, 30);
        CHECK.no("there is no fourth", x.drop(2, 3));
        CHECK.yes("the second", x.drop(2, 1));
        CHECK.row("hit", x::hit, 3, 0, NONE);
        CHECK.yes("the second is the third now", x.drop(2, 1));
        CHECK.row("hit", x::hit, 0, NONE);
        CHECK.no("there is no second", x.drop(2, 1));
        CHECK.no("none below 0", x.drop(2, NONE));
        CHECK.no("on a tree", x.drop(0, 0));
        CHECK.no("on no axis", x.drop(3, 0));
        CHECK.yes("the first", x.drop(2, 0));
        CHECK.same("all are hits", x.count(4), 6);
    }

    @Edge(promise = 13, words = "MISSING of an axis is SELECTED, or not: true; false: others, it is so"
            + " already.")
    private static void promise13() {
        DrillCount x = Made.shop();
        CHECK.no("it is not", x.missing(2, false));
        CHECK.yes("it is", x.missing(2, true));
        CHECK.row("hit", x::hit, 5, 4, NONE);
        CHECK.no("it is so already", x.missing(2, true));
        CHECK.yes("of a tree", x.missing(0, true));
        CHECK.row("hit", x::hit, 4, NONE);
        CHECK.yes("not any more", x.missing(2, false));
        CHECK.no("of no axis", x.missing(3, true));
        CHECK.same("axis 0 is not open", x.count(7), 1);
    }

    @Edge(promise = 14, words = "OPEN: nothing is SELECTED on an axis any more: true; false: others, it is"
            + " OPEN.")
    private static void promise14() {
        DrillCount x = Made.shop();
        CHECK.no("it is open", x.open(0));
        x.select(1, true);
        x.select(4, true);
        x.missing(0, true);
        x.range(2, 0, 9);
        CHECK.yes("axis 0", x.open(0));
        CHECK.row("count", x::count, 3, 8, 6, 6, 0, 0, 1, 4);
        CHECK.no("it is open", x.open(0));
        CHECK.yes("axis 2", x.open(2));
        CHECK.no("no axis", x.open(3));
        CHECK.same("hits", x.count(4), 6);
    }

    @Edge(promise = 15, words = "BACK: true; false: nothing can be.")
    private static void promise15() {
        DrillCount x = Made.shop();
        CHECK.no("building is no step", x.back());
        x.select(1, true);
        x.select(1, true);
        CHECK.yes("the one that was done", x.back());
        CHECK.same("hits", x.count(4), 6);
        CHECK.no("nothing can be", x.back());
        for (int step = 0; step < 20; step++) {
            x.missing(2, step % 2 == 0);
        }
        for (int step = 0; step < 16; step++) {
            CHECK.yes("one of sixteen", x.back());
            CHECK.same("axis 2", x.count(7), step % 2 == 0 ? 4 : 0);
        }
        CHECK.no("nothing can be", x.back());
    }

    // ---- single things

    @Edge(promise = 16, words = "Of a CATEGORY, what 0: its axis, 1: the one it is below (NONE: none), 2:"
            + " LEVEL, 3: 1 SELECTED (0: not), 4: how many are BELOW it; NONE: others.")
    private static void promise16() {
        DrillCount x = Made.shop();
        x.select(1, true);
        CHECK.row("of 0", what -> x.of(0, what), 0, NONE, 0, 0, 3, NONE);
        CHECK.row("of 1", what -> x.of(1, what), 0, 0, 1, 1, 1, NONE);
        CHECK.row("of 3", what -> x.of(3, what), 0, 1, 2, 0, 0, NONE);
        CHECK.row("of 6", what -> x.of(6, what), 1, 5, 1, 0, 0, NONE);
        CHECK.row("of none", what -> x.of(8, what), NONE, NONE, NONE, NONE, NONE, NONE);
        CHECK.same("what -1", x.of(0, -1), NONE);
    }

    @Edge(promise = 17, words = "Of a DOCUMENT, what 0: SCORE, 1: 1 THERE, 2: 1 a HIT, 3: PASSED (NONE: not"
            + " THERE), 4: place in ORDER of those THERE (NONE: not THERE); NONE: others.")
    private static void promise17() {
        DrillCount x = Made.shop();
        x.select(1, true);
        x.remove(5);
        CHECK.row("of 0", what -> x.doc(0, what), 50, 1, 1, 7, 2, NONE);
        CHECK.row("of 1", what -> x.doc(1, what), 80, 1, 1, 7, 1, NONE);
        CHECK.row("of 2", what -> x.doc(2, what), 50, 1, 0, 6, 3, NONE);
        CHECK.row("of 3", what -> x.doc(3, what), 99, 1, 0, 6, 0, NONE);
        CHECK.row("of 4", what -> x.doc(4, what), 10, 1, 0, 6, 4, NONE);
        CHECK.row("of 5, not there", what -> x.doc(5, what), 80, 0, 0, NONE, NONE, NONE);
        CHECK.row("of none", what -> x.doc(6, what), NONE, NONE, NONE, NONE, NONE, NONE);
        CHECK.same("what -1", x.doc(0, -1), NONE);
    }

    @Edge(promise = 18, words = "Whether a DOCUMENT HAS a CATEGORY; false: others, it is not THERE.")
    private static void promise18() {
        DrillCount x = Made.shop();
        CHECK.row("0 has", c -> bit(x.has(0, c)), 1, 1, 0, 1, 0, 1, 0, 0, 0);
        CHECK.row("1 has", c -> bit(x.has(1, c)), 1, 1, 1, 0, 0, 1, 1, 0, 0);
        CHECK.row("those with 7", d -> bit(x.has(d, 7)), 0, 0, 1, 1, 0, 1, 0);
        x.remove(3);
        CHECK.row("3 is not there", c -> bit(x.has(3, c)), 0, 0, 0, 0, 0, 0, 0, 0, 0);
        CHECK.no("no document", x.has(-1, 0));
        CHECK.no("no category", x.has(0, -1));
    }

    @Edge(promise = 19, words = "The number of a DOCUMENT; NoSuchElementException: others, none, it is not"
            + " THERE.")
    private static void promise19() {
        DrillCount x = Made.shop();
        CHECK.row("numbers", d -> x.numberOf(d, 2), 10, 20, 20, 30);
        CHECK.noSuch("none", () -> x.numberOf(4, 2));
        CHECK.noSuch("no document", () -> x.numberOf(6, 2));
        CHECK.noSuch("a tree", () -> x.numberOf(0, 0));
        CHECK.noSuch("no axis", () -> x.numberOf(0, 3));
        x.remove(0);
        CHECK.noSuch("it is not there", () -> x.numberOf(0, 2));
    }

    @Edge(promise = 20, words = "The i-th HIT in ORDER (from 0); NONE: none such.")
    private static void promise20() {
        DrillCount x = Made.shop();
        CHECK.row("hit", x::hit, 3, 1, 5, 0, 2, 4, NONE);
        x.select(5, true);
        CHECK.row("with 5", x::hit, 3, 1, 5, 0, NONE);
        x.range(2, 10, 20);
        CHECK.row("10 to 20", x::hit, 1, 0, NONE);
        x.remove(1);
        CHECK.row("without 1", x::hit, 0, NONE);
        CHECK.same("hit(-1)", x.hit(-1), NONE);
    }

    // ---- how many

    @Edge(promise = 21, words = "How many are NEAR an axis; NONE: others.")
    private static void promise21() {
        DrillCount x = Made.shop();
        CHECK.row("all open", x::near, 6, 6, 6, NONE);
        x.select(1, true);
        CHECK.row("with 1", x::near, 6, 2, 2, NONE);
        x.select(6, true);
        CHECK.row("with 6", x::near, 2, 2, 1, NONE);
        x.range(2, 10, 10);
        CHECK.row("10", x::near, 0, 1, 1, NONE);
        CHECK.same("near(-1)", x.near(-1), NONE);
    }

    @Edge(promise = 22, words = "SHOWN; NONE: others.")
    private static void promise22() {
        DrillCount x = Made.shop();
        x.select(6, true);
        CHECK.row("1 and 3 are hits", x::shown, 1, 1, 1, 0, 1, 2, 2, 1, NONE);
        x.select(4, true);
        CHECK.row("3 is a hit, 1 near axis 0", x::shown, 1, 1, 1, 0, 1, 1, 1, 1, NONE);
        CHECK.same("shown(-1)", x.shown(-1), NONE);
    }

    @Edge(promise = 23, words = "SHOWN of MISSING; NONE: others.")
    private static void promise23() {
        DrillCount x = Made.shop();
        x.select(4, true);
        CHECK.row("4 is near axis 0, 5 a hit", x::shownMissing, 1, 0, 1, NONE);
        x.missing(0, true);
        CHECK.row("4 is a hit, too", x::shownMissing, 1, 1, 2, NONE);
        CHECK.same("shownMissing(-1)", x.shownMissing(-1), NONE);
    }

    @Edge(promise = 24, words = "What 0: CLICK, 1: MORE, 2: LESS; NONE: others.")
    private static void promise24() {
        DrillCount x = Made.shop();
        x.select(1, true);
        x.select(5, true);
        CHECK.same("hits: 0 and 1", x.count(4), 2);
        CHECK.row("4", what -> x.click(4, what), 2, 4, 2, NONE);
        CHECK.row("1", what -> x.click(1, what), 2, 2, 4, NONE);
        CHECK.row("6", what -> x.click(6, what), 1, 1, 2, NONE);
        CHECK.row("5", what -> x.click(5, what), 2, 2, 2, NONE);
        CHECK.row("none", what -> x.click(8, what), NONE, NONE, NONE, NONE);
        CHECK.same("what -1", x.click(4, -1), NONE);
        CHECK.same("hits, as they were", x.count(4), 2);
    }

    @Edge(promise = 25, words = "LIFT; NONE: others.")
    private static void promise25() {
        DrillCount x = Made.shop();
        x.select(1, true);
        x.select(7, true);
        x.range(2, 20, 30);
        CHECK.same("hits", x.count(4), 0);
        CHECK.row("0 with", axis -> x.lift(0, axis), 2, 3, 3, NONE);
        CHECK.row("1 with", axis -> x.lift(1, axis), 3, 1, 2, NONE);
        CHECK.row("2 with", axis -> x.lift(2, axis), 3, 2, 0, NONE);
        CHECK.row("none with", axis -> x.lift(-1, axis), NONE, NONE, NONE, NONE);
    }

    @Edge(promise = 26, words = "What 0: OWN, 1: TWICE; NONE: others.")
    private static void promise26() {
        DrillCount x = Made.shop();
        CHECK.row("own", c -> x.sums(c, 0), 1, 1, 2, 1, 2, 2, 2, 3, NONE);
        CHECK.row("twice: 1 is in 1 and 2", c -> x.sums(c, 1), 1, 0, 0, 0, 0, 0, 0, 0, NONE);
        x.tag(5, 3, true);
        CHECK.row("twice: 5 is in 0 and 3, too", c -> x.sums(c, 1), 2, 0, 0, 0, 0, 0, 0, 0, NONE);
        CHECK.row("what", what -> x.sums(0, what), 1, 2, NONE);
        CHECK.same("what -1", x.sums(0, -1), NONE);
    }

    @Edge(promise = 27, words = "What 0: EMPTY, 1: LEAVES; 0: others.")
    private static void promise27() {
        DrillCount x = Made.shop();
        CHECK.row("leaves: 2 3 4, 6 7", axis -> x.sets(axis, 1), 4 + 8 + 16, 64 + 128, 0, 0);
        CHECK.row("empty: none", axis -> x.sets(axis, 0), 0, 0, 0, 0);
        x.range(2, 10, 10);
        CHECK.row("empty: 2 4, 6 7", axis -> x.sets(axis, 0), 4 + 16, 64 + 128, 0, 0);
        CHECK.row("what", what -> x.sets(0, what), 4 + 16, 4 + 8 + 16, 0);
        CHECK.same("what -1", x.sets(0, -1), 0);
    }

    // ---- numbers

    @Edge(promise = 28, words = "Of the i-th BIN (from 0), what 0: its least, 1: its greatest number, 2: how"
            + " many; NoSuchElementException: others, none such.")
    private static void promise28() {
        DrillCount x = Made.shop();
        CHECK.row("least", i -> x.bin(2, 4, i, 0), 10, 20, 30);
        CHECK.row("greatest", i -> x.bin(2, 2, i, 1), 20, 30);
        CHECK.row("how many", i -> x.bin(2, 4, i, 2), 1, 2, 1);
        CHECK.noSuch("none such", () -> x.bin(2, 4, 3, 0));
        CHECK.noSuch("i -1", () -> x.bin(2, 4, -1, 0));
        CHECK.noSuch("k 0", () -> x.bin(2, 0, 0, 0));
        CHECK.noSuch("k 9", () -> x.bin(2, 9, 0, 0));
        CHECK.noSuch("what 3", () -> x.bin(2, 4, 0, 3));
        CHECK.noSuch("a tree", () -> x.bin(0, 4, 0, 0));
        CHECK.noSuch("no axis", () -> x.bin(3, 4, 0, 0));
    }

    @Edge(promise = 29, words = "How many BINS there are; NONE: others.")
    private static void promise29() {
        DrillCount x = Made.shop();
        CHECK.row("for k", k -> x.bins(2, k), NONE, 1, 2, 2, 3, 3, 3, 3, 3, NONE);
        CHECK.row("of axes", axis -> x.bins(axis, 2), NONE, NONE, 2, NONE);
        x.missing(0, true);
        CHECK.same("4 has no number", x.bins(2, 2), 0);
    }

    @Edge(promise = 30, words = "EVEN, k 1 to 8; NONE: others.")
    private static void promise30() {
        DrillCount x = Made.shop();
        CHECK.row("for k", k -> x.even(2, k), NONE, 4, 3, 2, 2, 2, 2, 2, 2, NONE);
        CHECK.row("of axes", axis -> x.even(axis, 2), NONE, NONE, 3, NONE);
        x.missing(0, true);
        CHECK.same("4 has no number", x.even(2, 2), 0);
    }

    // ---- categories against each other

    @Edge(promise = 31, words = "The i-th of TOP (from 0); NONE: others, none such.")
    private static void promise31() {
        DrillCount x = Made.shop();
        CHECK.row("above 0", i -> x.top(0, 0, i), 0, 1, 2, 4, 3, NONE);
        CHECK.row("above 3", i -> x.top(0, 3, i), 0, NONE);
        CHECK.row("of axes", axis -> x.top(axis, 0, 0), 0, 5, NONE, NONE);
        CHECK.same("cut -1", x.top(0, -1, 0), NONE);
        CHECK.same("cut 41", x.top(0, 41, 0), NONE);
        CHECK.same("i -1", x.top(0, 0, -1), NONE);
    }

    @Edge(promise = 32, words = "READ; NONE: others.")
    private static void promise32() {
        DrillCount x = Made.shop();
        CHECK.row("for k", k -> x.read(0, k), NONE, 5, 6, 6, 6, 0, 0, 0, 0, 0, NONE);
        CHECK.row("of axes", axis -> x.read(axis, 1), 5, 4, NONE, NONE);
        x.document(0);
        CHECK.row("with two unread 0 has as many, 5 has not yet", axis -> x.read(axis, 1), 5, 6, NONE);
    }

    @Edge(promise = 33, words = "The i-th of PATH (from 0); NONE: others, none such.")
    private static void promise33() {
        DrillCount x = Made.shop();
        CHECK.row("axis 0", i -> x.path(0, i), 0, 1, 3, NONE);
        CHECK.row("axis 1", i -> x.path(1, i), 5, 6, NONE);
        CHECK.row("axis 2", i -> x.path(2, i), NONE);
        CHECK.row("no axis", i -> x.path(3, i), NONE);
        CHECK.same("i -1", x.path(0, -1), NONE);
    }

    @Edge(promise = 34, words = "SPLIT; NONE: none is not SELECTED.")
    private static void promise34() {
        DrillCount x = Made.shop();
        CHECK.same("7", x.split(), 7);
        for (int c = 0; c < 7; c++) {
            x.select(c, true);
        }
        CHECK.same("the last one", x.split(), 7);
        x.select(7, true);
        CHECK.same("none is left", x.split(), NONE);
        CHECK.same("none is there", Made.axes(0).split(), NONE);
    }

    @Edge(promise = 35, words = "COVER: the i-th (from 0), how many (i NONE: 0, if nothing is to be"
            + " covered); NONE: others, none such, there is none, more than 12 such CATEGORIES are on"
            + " the axis.")
    private static void promise35() {
        DrillCount x = Made.shop();
        CHECK.row("axis 0", i -> x.cover(0, i), 1, 2, 4, NONE);
        CHECK.same("how many", x.cover(0, NONE), 3);
        CHECK.same("i -2", x.cover(0, -2), NONE);
        CHECK.same("there is none", x.cover(1, NONE), NONE);
        CHECK.same("nor a first", x.cover(1, 0), NONE);
        CHECK.same("not a tree", x.cover(2, NONE), NONE);
        CHECK.same("no axis", x.cover(3, NONE), NONE);
        for (int c = 8; c < 16; c++) {
            x.category(0, 4);
        }
        CHECK.same("4 has some below it now, and 3 has it alone", x.cover(0, NONE), NONE);
        x.tag(3, 15, true);
        x.tag(5, 3, true);
        CHECK.row("1 for 0, 1 and 5, 2 for 2, 15 for 3", i -> x.cover(0, i), 1, 2, 15, NONE);
        x.category(0, 4);
        CHECK.same("twelve such", x.cover(0, NONE), 3);
        x.category(0, 4);
        CHECK.same("thirteen such", x.cover(0, NONE), NONE);
        x.missing(1, true);
        CHECK.same("nothing is to be covered", x.cover(1, NONE), 0);
    }

    @Edge(promise = 36, words = "BOTH; NONE: others.")
    private static void promise36() {
        DrillCount x = Made.shop();
        CHECK.row("5 with", c -> x.both(5, c), 3, 2, 1, 1, 2, 4, 2, 2, NONE);
        CHECK.row("none with", c -> x.both(8, c), NONE, NONE, NONE, NONE, NONE, NONE, NONE, NONE);
        x.range(2, 10, 20);
        CHECK.row("5 with, of the hits 0 1 2", c -> x.both(5, c), 2, 2, 1, 1, 0, 2, 1, 0, NONE);
        CHECK.same("both(-1, 0)", x.both(-1, 0), NONE);
    }

    // ---- documents against each other

    @Edge(promise = 37, words = "ALIKE of two unlike ones THERE; NONE: others.")
    private static void promise37() {
        DrillCount x = Made.shop();
        CHECK.row("0 with", d -> x.alike(0, d), NONE, 3, 1, 1, 0, 2, NONE);
        CHECK.row("3 with", d -> x.alike(3, d), 1, 2, 1, NONE, 0, 3, NONE);
        x.select(1, true);
        CHECK.same("what is selected does not count", x.alike(3, 5), 3);
        x.remove(5);
        CHECK.same("5 is not there", x.alike(3, 5), NONE);
        CHECK.same("5 is not there", x.alike(5, 3), NONE);
    }

    @Edge(promise = 38, words = "NEAREST; NONE: others, it is not THERE, no other one is.")
    private static void promise38() {
        DrillCount x = Made.shop();
        CHECK.row("nearest", x::nearest, 1, 0, 1, 5, 3, 3, NONE);
        x.remove(1);
        CHECK.row("without 1", x::nearest, 5, NONE, 5, 5, 3, 3, NONE);
        x.remove(0);
        x.remove(2);
        x.remove(3);
        CHECK.row("4 and 5 alone", x::nearest, NONE, NONE, NONE, NONE, 5, 4, NONE);
        x.remove(4);
        CHECK.same("no other one is", x.nearest(5), NONE);
    }

    @Edge(promise = 39, words = "MISS, 0 to 5; NONE: others.")
    private static void promise39() {
        DrillCount x = Made.shop();
        x.select(4, true);
        x.select(6, true);
        x.range(2, 20, 30);
        CHECK.row("3 / 1 / 2 5 / 0 4", x::miss, 1, 1, 2, 2, 0, 0, NONE);
        CHECK.same("miss(-1)", x.miss(-1), NONE);
    }

    @Edge(promise = 40, words = "MOST; NONE: no HIT.")
    private static void promise40() {
        DrillCount x = Made.shop();
        CHECK.same("1 has five", x.most(), 1);
        x.remove(1);
        CHECK.same("0, 3 and 5 have four, 3 is the first", x.most(), 3);
        x.select(0, true);
        CHECK.same("5 is before 0", x.most(), 5);
        x.select(0, false);
        x.missing(0, true);
        CHECK.same("4 has none and is the one hit", x.most(), 4);
        x.range(2, 0, 0);
        CHECK.same("no hit", x.most(), NONE);
    }

    @Edge(promise = 41, words = "What 0: MEDIAN, 1: SPAN; NoSuchElementException: others, no HIT has a number"
            + " there.")
    private static void promise41() {
        DrillCount x = Made.shop();
        CHECK.row("of all", what -> x.middle(2, what), 20, 20);
        x.select(4, true);
        CHECK.row("30 alone", what -> x.middle(2, what), 30, 0);
        CHECK.noSuch("what 2", () -> x.middle(2, 2));
        CHECK.noSuch("what -1", () -> x.middle(2, -1));
        CHECK.noSuch("a tree", () -> x.middle(0, 0));
        CHECK.noSuch("no axis", () -> x.middle(3, 0));
        x.remove(3);
        CHECK.noSuch("5 has no number", () -> x.middle(2, 0));
        x.remove(5);
        CHECK.noSuch("there is no hit", () -> x.middle(2, 1));
    }

    @Edge(promise = 42, words = "What 0: AXES, 1: CATEGORIES, 2: DOCUMENTS that have been, 3: that are THERE,"
            + " 4: HITS, 5: SELECTED CATEGORIES, 6: RANGES, 7: axes that are not OPEN, as bits, 8: what"
            + " can be taken BACK. NONE for another what.")
    private static void promise42() {
        DrillCount x = Made.shop();
        CHECK.row("all open", x::count, 3, 8, 6, 6, 6, 0, 0, 0, 0, NONE);
        x.remove(4);
        x.select(0, true);
        x.select(5, true);
        x.range(2, 0, 5);
        x.range(2, 6, 10);
        CHECK.row("0 is the hit", x::count, 3, 8, 6, 5, 1, 2, 2, 7, 4, NONE);
        x.drop(2, 0);
        x.back();
        x.back();
        CHECK.row("without 6 to 10", x::count, 3, 8, 6, 5, 0, 2, 1, 7, 3, NONE);
        CHECK.same("count(-1)", x.count(-1), NONE);
    }
}
