import java.io.IOException;
import java.lang.reflect.Field;
import java.lang.reflect.Method;
import java.lang.reflect.Modifier;
import java.util.ArrayList;
import java.util.Arrays;
import java.util.Comparator;
import java.util.List;
import java.util.Random;

/**
 * What the document says outside its promises, sentence by sentence from its first line: what it
 * is, the terms, what is not promised. Most of it on the shop of Made, worked out by hand.
 */
public final class SentenceTermsTest {

    private static final int NONE = DrillCount.NONE;
    private static final Check CHECK = new Check();

    public static void main(String[] args) throws IOException {
        Edges.run(SentenceTermsTest.class, CHECK, 0);
    }

    /** The shop with 1 selected, and numbers from 10 to 20: the hits are 1 and 0. */
    private static DrillCount narrow() {
        DrillCount x = Made.shop();
        x.select(1, true);
        x.range(2, 10, 20);
        return x;
    }

    // ---- what it is

    @Edge(promise = 0, words = "Category counter for drilled-down search: an object is one collection"
            + " of documents that stand in trees of categories and have numbers, on several axes, and"
            + " what is selected on each;")
    private static void oneCollection() {
        DrillCount x = narrow();
        DrillCount other = Made.shop();
        CHECK.row("count", x::count, 3, 8, 6, 6, 2, 1, 1, 5, 2);
        CHECK.row("count of another one", other::count, 3, 8, 6, 6, 6, 0, 0, 0, 0);
        CHECK.yes("0 stands in a tree", x.has(0, 0));
        CHECK.same("its number", x.numberOf(0, 2), 10);
    }

    @Edge(promise = 0, words = "which documents are hits, which miss by how many axes;")
    private static void hitsAndMisses() {
        DrillCount x = narrow();
        CHECK.row("hit", x::hit, 1, 0, NONE);
        CHECK.row("doc(.., 2)", d -> x.doc(d, 2), 1, 1, 0, 0, 0, 0, NONE);
        CHECK.row("miss", x::miss, 2, 1, 3, 0, 0, 0, NONE);
    }

    @Edge(promise = 0, words = "how many each category shows with its own axis lifted, or within what"
            + " is selected, each document once however many branches it is in, what is missing as a"
            + " group of its own;")
    private static void whatCategoriesShow() {
        DrillCount x = Made.shop();
        CHECK.row("shown", x::shown, 4, 2, 2, 1, 2, 4, 2, 3, NONE);
        CHECK.row("shownMissing", x::shownMissing, 1, 1, 2, NONE);
        DrillCount y = narrow();
        CHECK.row("shown, lifted on axis 0, within on axis 1", y::shown, 3, 2, 2, 1, 0, 2, 1, 0);
        CHECK.row("shownMissing", y::shownMissing, 0, 0, 0, NONE);
        y.missing(0, true);
        y.open(2);
        CHECK.row("shownMissing: 4 is a hit", y::shownMissing, 1, 1, 1, NONE);
    }

    @Edge(promise = 0, words = "what a click would leave; sums without double count;")
    private static void clicksAndSums() {
        DrillCount x = narrow();
        CHECK.same("2 alone: 1 and 2", x.click(2, 0), 2);
        CHECK.same("2, too: 0, 1 and 2", x.click(2, 1), 3);
        CHECK.same("1 no more: 0, 1 and 2", x.click(1, 2), 3);
        CHECK.same("6, too: 1", x.click(6, 0), 1);
        CHECK.same("the hits are as they were", x.count(4), 2);
        CHECK.same("none is in 0 itself: 5 is not near", x.sums(0, 0), 0);
        CHECK.same("1 is in 1 and in 2", x.sums(0, 1), 1);
    }

    @Edge(promise = 0, words = "bins of numbers that go by what is there;")
    private static void binsGoByWhatIsThere() {
        DrillCount x = Made.shop();
        CHECK.same("two: 10 20 20 / 30", x.bins(2, 2), 2);
        CHECK.row("the first", what -> x.bin(2, 2, 0, what), 10, 20, 3);
        CHECK.row("the second", what -> x.bin(2, 2, 1, what), 30, 30, 1);
        x.select(4, true);
        CHECK.same("30 alone is near", x.bins(2, 2), 1);
        CHECK.row("it", what -> x.bin(2, 2, 0, what), 30, 30, 1);
    }

    @Edge(promise = 0, words = "the top categories above a cut, and how many documents must be read"
            + " till they are certain;")
    private static void topAndRead() {
        DrillCount x = Made.shop();
        CHECK.row("above 1", i -> x.top(0, 1, i), 0, 1, 2, 4, NONE);
        CHECK.row("above 2", i -> x.top(0, 2, i), 0, NONE);
        CHECK.same("behind five 0 has 4, the others 2", x.read(0, 1), 5);
        CHECK.same("3 could come up to 4 till all are read", x.read(0, 4), 6);
        CHECK.same("there are only five", x.read(0, 5), 0);
    }

    @Edge(promise = 0, words = "paths down, covers, splits;")
    private static void pathsCoversSplits() {
        DrillCount x = Made.shop();
        CHECK.row("path", i -> x.path(0, i), 0, 1, 3, NONE);
        CHECK.same("how many cover", x.cover(0, NONE), 3);
        CHECK.row("cover", i -> x.cover(0, i), 1, 2, 4, NONE);
        CHECK.same("7 has half of the hits", x.split(), 7);
    }

    @Edge(promise = 0, words = "selections taken back one by one.")
    private static void takenBackOneByOne() {
        DrillCount x = narrow();
        x.missing(0, true);
        x.open(0);
        CHECK.same("0, 1 and 2", x.count(4), 3);
        CHECK.yes("open", x.back());
        CHECK.same("4 passes as missing", x.doc(4, 3), 3);
        CHECK.yes("missing", x.back());
        CHECK.same("4 does not pass any more", x.doc(4, 3), 2);
        CHECK.yes("range", x.back());
        CHECK.same("4 passes axis 2", x.doc(4, 3), 6);
        CHECK.yes("select", x.back());
        CHECK.same("all are hits", x.count(4), 6);
        CHECK.no("no more", x.back());
    }

    @Edge(promise = 0, words = "An object is used for at most 512 calls after it has been made; what"
            + " later calls answer is free.")
    private static void laterCallsDoNotThrowByThemselves() {
        List<Method> face = face();
        int[] wild = {NONE, NONE, 39, 40, 64, -999, 999, Made.MIN, Made.MAX};
        for (int run = 0; run < 40; run++) {
            Random random = new Random(run);
            DrillCount x = Made.full();
            for (int call = 0; call < 8 * Script.MOST_CALLS; call++) {
                Method method = face.get(random.nextInt(face.size()));
                Script.Call made = new Script.Call(method.getName(), drawn(method, random, wild));
                String answer = made.on(x);
                boolean may = method.getExceptionTypes().length > 0;
                CHECK.yes(made + " answered " + answer, !answer.startsWith("throws.")
                        || may && answer.equals("throws.NoSuchElementException"));
            }
        }
    }

    private static List<Method> face() {
        List<Method> all = new ArrayList<>();
        for (Method method : DrillCount.class.getDeclaredMethods()) {
            // With so much removed soon nothing would be left to ask about.
            if (Modifier.isPublic(method.getModifiers()) && !method.getName().equals("remove")) {
                all.add(method);
            }
        }
        all.sort(Comparator.comparing(Method::getName));
        return all;
    }

    private static Object[] drawn(Method method, Random random, int[] wild) {
        Object[] args = new Object[method.getParameterCount()];
        for (int i = 0; i < args.length; i++) {
            if (method.getParameterTypes()[i] == boolean.class) {
                args[i] = random.nextInt(3) > 0;
            } else if (random.nextInt(5) == 0) {
                args[i] = wild[random.nextInt(wild.length)];
            } else {
                args[i] = random.nextInt(random.nextBoolean() ? 5 : 40);
            }
        }
        return args;
    }

    // ---- the terms

    @Edge(promise = 3, words = "CATEGORIES: 40 at most, numbered as told, each on an axis of KIND 0 or"
            + " 1, at the top or below another one of this axis; LEVEL: 0 at the top, one more than"
            + " that of the one it is below; 5 at most.")
    private static void categoriesStandInTrees() {
        DrillCount x = Made.shop();
        CHECK.row("axis", c -> x.of(c, 0), 0, 0, 0, 0, 0, 1, 1, 1, NONE);
        CHECK.row("below", c -> x.of(c, 1), NONE, 0, 0, 1, NONE, NONE, 5, NONE, NONE);
        CHECK.row("level", c -> x.of(c, 2), 0, 1, 1, 2, 0, 0, 1, 0, NONE);
        CHECK.same("below 3", x.category(0, 3), 8);
        CHECK.same("level", x.of(8, 2), 3);
        CHECK.same("below one of another axis", x.category(1, 3), NONE);
        CHECK.same("of a NUMBER axis", x.category(2, NONE), NONE);
        CHECK.same("below 6", x.category(1, 6), 9);
        CHECK.same("level", x.of(9, 2), 2);
    }

    @Edge(promise = 16, words = "BELOW one: those that are right below it, those below these, on and on.")
    private static void belowOnAndOn() {
        DrillCount x = Made.shop();
        CHECK.row("below", c -> x.of(c, 4), 3, 1, 0, 0, 0, 1, 0, 0, NONE);
        x.category(0, 3);
        CHECK.row("with 8 below 3", c -> x.of(c, 4), 4, 2, 0, 1, 0, 1, 0, 0, 0, NONE);
        x.move(1, 4);
        CHECK.row("with 1 below 4", c -> x.of(c, 4), 1, 2, 0, 1, 3, 1, 0, 0, 0, NONE);
    }

    @Edge(promise = 5, words = "DOCUMENTS: 40 at most ever, numbered as told, each with a SCORE, 0 to"
            + " 99; THERE till it is taken away (its number does not come again).")
    private static void documentsAreNumberedAsTold() {
        DrillCount x = Made.shop();
        CHECK.row("scores", d -> x.doc(d, 0), 50, 80, 50, 99, 10, 80, NONE);
        x.remove(5);
        CHECK.same("the next", x.document(7), 6);
        CHECK.row("scores", d -> x.doc(d, 0), 50, 80, 50, 99, 10, 80, 7, NONE);
        CHECK.row("there", d -> x.doc(d, 1), 1, 1, 1, 1, 1, 0, 1, NONE);
        CHECK.row("count", x::count, 3, 8, 7, 6);
    }

    @Edge(promise = 7, words = "A DOCUMENT is TAGGED with CATEGORIES (any), and has a number, -999 to"
            + " 999, on an axis of KIND 2, or none.")
    private static void tagsAndNumbers() {
        DrillCount x = Made.shop();
        CHECK.row("5 has", c -> x.has(5, c) ? 1 : 0, 1, 0, 0, 0, 1, 1, 0, 1);
        CHECK.row("4 has", c -> x.has(4, c) ? 1 : 0, 0, 0, 0, 0, 0, 0, 0, 0);
        CHECK.row("numbers", d -> x.numberOf(d, 2), 10, 20, 20, 30);
        CHECK.noSuch("4 has none", () -> x.numberOf(4, 2));
        CHECK.yes("4 gets one", x.number(4, 2, -999));
        CHECK.same("it", x.numberOf(4, 2), -999);
        CHECK.yes("another", x.number(4, 2, 999));
        CHECK.same("it", x.numberOf(4, 2), 999);
        CHECK.no("beyond", x.number(4, 2, 1000));
        CHECK.no("on a tree", x.number(4, 0, 1));
    }

    @Edge(promise = 23, words = "It is MISSING on an axis, if it is TAGGED with none of it, has no number.")
    private static void missingAxisByAxis() {
        DrillCount x = Made.shop();
        CHECK.row("how many", x::shownMissing, 1, 1, 2);
        x.tag(4, 3, true);
        CHECK.row("4 is tagged on axis 0", x::shownMissing, 0, 1, 2);
        x.number(5, 2, 0);
        CHECK.row("5 has a number", x::shownMissing, 0, 1, 1);
        x.tag(2, 7, false);
        CHECK.row("2 has no tag of axis 1", x::shownMissing, 0, 2, 1);
        x.missing(1, true);
        CHECK.row("those are the hits", x::hit, 2, 4, NONE);
    }

    @Edge(promise = 14, words = "SELECTED on an axis: CATEGORIES of it (any); RANGES (NUMBER; 3 at most,"
            + " numbered as told) from a low to a high; MISSING, or not. An axis on which nothing is"
            + " SELECTED is OPEN.")
    private static void selectedOnAnAxis() {
        DrillCount x = Made.shop();
        x.select(0, true);
        x.select(3, true);
        x.select(4, true);
        CHECK.row("of(.., 3)", c -> x.of(c, 3), 1, 0, 0, 1, 1, 0, 0, 0, NONE);
        CHECK.row("the i-th range", i -> x.range(2, 10 * i, 10 * i + 9), 0, 1, 2, NONE);
        CHECK.same("of a tree", x.range(0, 0, 9), NONE);
        CHECK.yes("missing", x.missing(2, true));
        CHECK.row("count", x::count, 3, 8, 6, 6, 4, 3, 3, 5, 7);
        CHECK.yes("open", x.open(2));
        CHECK.same("axis 0 alone is not open", x.count(7), 1);
        x.select(0, false);
        x.select(3, false);
        CHECK.same("4 is selected yet", x.count(7), 1);
        x.select(4, false);
        CHECK.same("all are open", x.count(7), 0);
    }

    @Edge(promise = 17, words = "A DOCUMENT PASSES an axis, if that is OPEN; else, ANY: if it HAS any of"
            + " the SELECTED CATEGORIES; NUMBER: if its number is in any of the RANGES (ends, too);"
            + " both: or if it is MISSING there and MISSING is SELECTED; ALL: if it HAS all SELECTED"
            + " CATEGORIES, and is MISSING, if that is SELECTED.")
    private static void passesEachKind() {
        DrillCount x = Made.shop();
        CHECK.row("all open", d -> x.doc(d, 3), 7, 7, 7, 7, 7, 7);
        x.select(1, true);
        x.select(4, true);
        CHECK.row("1 or 4", d -> x.doc(d, 3), 7, 7, 6, 7, 6, 7);
        x.select(5, true);
        x.select(7, true);
        CHECK.row("5 and 7", d -> x.doc(d, 3), 5, 5, 4, 7, 4, 7);
        x.range(2, 10, 10);
        x.range(2, 30, 35);
        CHECK.row("10, or 30 to 35", d -> x.doc(d, 3), 5, 1, 0, 7, 0, 3);
        x.missing(0, true);
        x.missing(2, true);
        CHECK.row("or missing", d -> x.doc(d, 3), 5, 1, 0, 7, 5, 7);
        x.missing(1, true);
        CHECK.row("5 and 7 and missing", d -> x.doc(d, 3), 5, 1, 0, 5, 5, 5);
        x.open(1);
        x.missing(1, true);
        CHECK.row("missing alone", d -> x.doc(d, 3), 5, 1, 0, 5, 7, 5);
    }

    @Edge(promise = 22, words = "SHOWN of a CATEGORY: ANY: how many NEAR its axis HAVE it; ALL: how many"
            + " HITS HAVE it.")
    private static void shownOfEachKind() {
        DrillCount x = Made.shop();
        x.select(4, true);
        x.select(7, true);
        CHECK.row("2, 3 and 5 are near axis 0, 3 and 5 hits", x::shown, 2, 0, 1, 0, 2, 2, 1, 2, NONE);
    }

    /** One, three times; 2; 3, twice; 5; 7; 9. */
    private static DrillCount nine() {
        return Made.numbered(5, 1, 3, 1, 2, 9, 1, 7, 3);
    }

    @Edge(promise = 28, words = "BINS of a NUMBER axis, k (1 to 8): of those NEAR it that have a number"
            + " there: from the least number on: the next BIN takes numbers, each with all that have"
            + " it, till it has as many as what is left by the BINS left, cut upwards (of those not in"
            + " a BIN yet, ahead of it), or more; the k-th takes all that is left; fewer, if none is"
            + " left.")
    private static void binsOfNine() {
        DrillCount x = nine();
        CHECK.row("how many for k", k -> x.bins(0, k), NONE, 1, 2, 3, 4, 5, 5, 6, 6, NONE);
        CHECK.row("1 1 1 / 2 3 3 / 5 7 9", i -> x.bin(0, 3, i, 1), 1, 3, 9);
        CHECK.row("1 1 1 / 2 3 3 / 5 7 / 9", i -> x.bin(0, 4, i, 2), 3, 3, 2, 1);
        CHECK.row("one alone", what -> x.bin(0, 1, 0, what), 1, 9, 9);
        CHECK.row("1 1 1 / 2 / 3 3 / 5 / 7 / 9", i -> x.bin(0, 8, i, 0), 1, 2, 3, 5, 7, 9);
    }

    @Edge(promise = 30, words = "EVEN: the least, over all ways to cut these numbers into k rows or"
            + " fewer, side by side, of equal ones in one, that the row with the most has (0: none).")
    private static void evenOfNine() {
        DrillCount x = nine();
        CHECK.row("even for k", k -> x.even(0, k), NONE, 9, 5, 3, 3, 3, 3, 3, 3, NONE);
        CHECK.same("none", Made.axes(2).even(0, 3), 0);
    }

    @Edge(promise = 31, words = "TOP of an axis (a tree), above a CUT (0 to 40): CATEGORIES of which"
            + " SHOWN is more than it, by SHOWN, downwards, of equal ones by numbers.")
    private static void topOfTheTraits() {
        DrillCount x = Made.shop();
        CHECK.row("above 0", i -> x.top(1, 0, i), 5, 7, 6, NONE);
        CHECK.row("above 2", i -> x.top(1, 2, i), 5, 7, NONE);
        CHECK.row("above 3", i -> x.top(1, 3, i), 5, NONE);
        CHECK.row("above 4", i -> x.top(1, 4, i), NONE);
        CHECK.row("no tree", i -> x.top(2, 0, i), NONE);
    }

    @Edge(promise = 32, words = "READ for k (1 to 9) of an axis: those THERE are read in ORDER; a"
            + " CATEGORY has as many so far as of those read SHOWN would count; CERTAIN: the k with"
            + " the most so far (of equal ones the lowest; all, if there are no more), if each of them"
            + " has more than any other CATEGORY of the axis has together with all that are not read"
            + " yet, or as many and is lower. READ: how many are read at least till that is so (0, too).")
    private static void readOfTheTraits() {
        DrillCount x = Made.shop();
        CHECK.row("4 2 2 behind four; 4 2 3 behind all; three there are", k -> x.read(1, k),
                NONE, 4, 6, 0, 0, 0, 0, 0, 0, 0, NONE);
        x.range(2, 20, 30);
        CHECK.row("the hits 3, 1 and 2: 2 2 1 behind two, 2 2 2 behind five", k -> x.read(1, k),
                NONE, 6, 6, 0, 0, 0, 0, 0, 0, 0, NONE);
    }

    @Edge(promise = 33, words = "PATH of an axis (a tree): from the top on, the one with the most SHOWN"
            + " of those right below (at the top), of equal ones the lowest, as long as that is above 0.")
    private static void pathsWithSevenSelected() {
        DrillCount x = Made.shop();
        x.select(7, true);
        CHECK.row("0 before 4, then 2, as 1 shows none", i -> x.path(0, i), 0, 2, NONE);
        CHECK.row("7 shows more than 5", i -> x.path(1, i), 7, NONE);
        CHECK.row("no tree", i -> x.path(2, i), NONE);
    }

    @Edge(promise = 34, words = "SPLIT: of all CATEGORIES that are not SELECTED that of which SHOWN,"
            + " doubled, is nearest to how many HITS there are, of equal ones the lowest.")
    private static void splitsOfFewerAndFewer() {
        DrillCount x = Made.shop();
        CHECK.same("7 shows 3 of 6", x.split(), 7);
        x.select(7, true);
        CHECK.same("0 shows 2 of 3, others 1 or 2 as well", x.split(), 0);
        x.select(0, true);
        CHECK.same("2 shows 1 of 2", x.split(), 2);
    }

    @Edge(promise = 35, words = "COVER of an axis (a tree): the fewest CATEGORIES of it, each of LEVEL 1"
            + " at least or without any below it, so that each HIT that is not MISSING there HAVEs one"
            + " of them; of several the first by numbers (as rows, the lowest first).")
    private static void coversOfTheShop() {
        DrillCount x = Made.shop();
        CHECK.row("1 before 3 for 0, 2 for 2, 4 for 3", i -> x.cover(0, i), 1, 2, 4, NONE);
        CHECK.same("0 has 5 alone, which has 6 below it", x.cover(1, NONE), NONE);
        x.select(7, true);
        CHECK.row("2 for 2, 4 for 3 and 5", i -> x.cover(0, i), 2, 4, NONE);
        x.open(1);
        x.remove(0);
        CHECK.row("6 for 1, 7 for 2", i -> x.cover(1, i), 6, 7, NONE);
        CHECK.same("no tree", x.cover(2, NONE), NONE);
    }

    @Edge(promise = 38, words = "NEAREST of a DOCUMENT: the other one with which it is most ALIKE, of"
            + " equal ones the first in ORDER.")
    private static void nearestOfEach() {
        DrillCount x = Made.shop();
        CHECK.row("nearest", x::nearest, 1, 0, 1, 5, 3, 3, NONE);
    }

    @Edge(promise = 41, words = "MEDIAN of a NUMBER axis: of HITS with a number the one in the midst of"
            + " all these, upwards (of an even many the lower of two). SPAN: their greatest less their"
            + " least.")
    private static void medianAndSpan() {
        DrillCount x = Made.shop();
        CHECK.row("10 20 20 30", what -> x.middle(2, what), 20, 20);
        x.select(5, true);
        CHECK.row("10 20 30", what -> x.middle(2, what), 20, 20);
        x.remove(1);
        CHECK.row("10 30", what -> x.middle(2, what), 10, 20);
        x.remove(0);
        CHECK.row("30", what -> x.middle(2, what), 30, 0);
    }

    @Edge(promise = 15, words = "BACK: what was done by SELECT, RANGE, DROP, MISSING, OPEN that could be"
            + " done, the last 16, one by one (SELECTED is as ahead of it).")
    private static void backOverAllKinds() {
        DrillCount x = Made.shop();
        CHECK.yes("select", x.select(1, true));
        CHECK.same("range", x.range(2, 0, 10), 0);
        CHECK.same("range", x.range(2, 20, 20), 1);
        CHECK.yes("drop", x.drop(2, 0));
        CHECK.no("drop of none", x.drop(2, 1));
        CHECK.yes("missing", x.missing(1, true));
        CHECK.yes("open", x.open(2));
        CHECK.no("open of one that is", x.open(2));
        CHECK.yes("select", x.select(1, false));
        CHECK.row("missing on axis 1 alone", x::count, 3, 8, 6, 6, 1, 0, 0, 2, 7);
        x.back();
        CHECK.row("1 again", x::count, 3, 8, 6, 6, 0, 1, 0, 3, 6);
        x.back();
        CHECK.row("20 again", x::count, 3, 8, 6, 6, 0, 1, 1, 7, 5);
        x.back();
        CHECK.row("not missing", x::count, 3, 8, 6, 6, 1, 1, 1, 5, 4);
        CHECK.same("with 20", x.hit(0), 1);
        x.back();
        CHECK.row("0 to 10 again", x::count, 3, 8, 6, 6, 2, 1, 2, 5, 3);
        x.back();
        CHECK.row("without 20", x::count, 3, 8, 6, 6, 1, 1, 1, 5, 2);
        CHECK.same("with 10", x.hit(0), 0);
        x.back();
        CHECK.row("1 alone", x::count, 3, 8, 6, 6, 2, 1, 0, 1, 1);
        x.back();
        CHECK.row("nothing", x::count, 3, 8, 6, 6, 6, 0, 0, 0, 0);
    }

    @Edge(promise = 1, words = "The constants: `NONE = -1`: None.")
    private static void oneConstant() throws IllegalAccessException {
        for (Field field : DrillCount.class.getFields()) {
            CHECK.yes("it is " + field.getName(), field.getName().equals("NONE"));
            CHECK.same("NONE", field.getInt(null), -1);
        }
        CHECK.same("constants", DrillCount.class.getFields().length, 1);
    }

    // ---- not promised

    @Edge(promise = 0, words = "How the state is held inside the object is free, as are the speed of each"
            + " call, the text of toString and the behaviour of equals and hashCode.")
    private static void nothingOfItsOwnForTexts() {
        List<String> free = Arrays.asList("toString", "equals", "hashCode");
        for (Method method : DrillCount.class.getDeclaredMethods()) {
            CHECK.no("its own " + method.getName(), free.contains(method.getName()));
        }
        DrillCount x = narrow();
        x.toString();
        x.hashCode();
        CHECK.yes("equals itself", x.equals(x));
        CHECK.row("count", x::count, 3, 8, 6, 6, 2, 1, 1, 5, 2);
    }

    @Edge(promise = 0, words = "Use of one object from several threads at once is not promised to be"
            + " safe.")
    private static void eachThreadWithAnObjectOfItsOwn() throws InterruptedException {
        int[] wrong = new int[4];
        Thread[] threads = new Thread[wrong.length];
        for (int t = 0; t < threads.length; t++) {
            int self = t;
            threads[t] = new Thread(() -> wrong[self] = wrongOfMany(self));
            threads[t].start();
        }
        for (int t = 0; t < threads.length; t++) {
            threads[t].join();
            CHECK.same("wrong answers of thread " + t, wrong[t], 0);
        }
    }

    private static int wrongOfMany(int thread) {
        int wrong = 0;
        for (int i = 0; i < 500; i++) {
            DrillCount x = narrow();
            x.select(thread % 2 == 0 ? 2 : 4, true);
            wrong += x.count(4) == (thread % 2 == 0 ? 3 : 2) ? 0 : 1;
            wrong += x.cover(0, NONE) == (thread % 2 == 0 ? 2 : 1) ? 0 : 1;
            wrong += x.bins(2, 2) == (thread % 2 == 0 ? 1 : 2) ? 0 : 1;
        }
        return wrong;
    }

    @Edge(promise = 0, words = "Nothing is promised beyond the answers and state changes described above,"
            + " and nothing about an object after its 512th call.")
    private static void nothingBeyondTheFace() {
        CHECK.yes("above it is Object alone", DrillCount.class.getSuperclass() == Object.class);
        CHECK.same("interfaces", DrillCount.class.getInterfaces().length, 0);
        CHECK.same("public classes inside", DrillCount.class.getClasses().length, 0);
        int methods = 0;
        for (Method method : DrillCount.class.getMethods()) {
            methods += method.getDeclaringClass() == DrillCount.class ? 1 : 0;
        }
        CHECK.same("public methods", methods, 41);
    }
}
