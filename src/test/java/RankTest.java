/** Promises 31 to 38 and 40: categories and documents against each other. */
public final class RankTest {

    private static final int NONE = DrillCount.NONE;
    private static final Check CHECK = new Check();

    public static void main(String[] args) {
        promise31();
        promise31Forty();
        promise32();
        promise32NotNear();
        promise32Ties();
        promise33();
        promise34();
        promise35();
        promise35First();
        promise35None();
        promise36();
        promise37();
        promise38();
        promise40();
        CHECK.end("RankTest");
    }

    /** Axis 0 of this kind with so many categories at the top, axis 1 NUMBER. */
    private static DrillCount flat(int kind, int categories) {
        DrillCount x = new DrillCount();
        x.axis(kind);
        x.axis(2);
        for (int c = 0; c < categories; c++) {
            x.category(0, NONE);
        }
        return x;
    }

    private static void tagged(DrillCount x, int score, int... categories) {
        int document = x.document(score);
        for (int category : categories) {
            x.tag(document, category, true);
        }
    }

    private static void row(String name, int[] got, int... due) {
        CHECK.same(name + ", how many", got.length, due.length);
        for (int i = 0; i < due.length && i < got.length; i++) {
            CHECK.same(name + ", the " + i + "-th", got[i], due[i]);
        }
    }

    private static int[] top(DrillCount x, int axis, int cut) {
        int many = 0;
        while (x.top(axis, cut, many) != NONE) {
            many++;
        }
        int[] all = new int[many];
        for (int i = 0; i < many; i++) {
            all[i] = x.top(axis, cut, i);
        }
        return all;
    }

    private static void promise31() {
        DrillCount x = flat(0, 5);
        tagged(x, 1, 4, 2);
        tagged(x, 2, 4, 2, 1);
        tagged(x, 3, 4, 3);
        row("above 0", top(x, 0, 0), 4, 2, 1, 3);
        row("above 1", top(x, 0, 1), 4, 2);
        row("above 2", top(x, 0, 2), 4);
        row("above 3", top(x, 0, 3));
        row("above 40", top(x, 0, 40));
        x.select(1, true);
        row("ANY: its own axis lifted", top(x, 0, 0), 4, 2, 1, 3);
        CHECK.same("top(0, -1, 0)", x.top(0, -1, 0), NONE);
        CHECK.same("top(0, 41, 0)", x.top(0, 41, 0), NONE);
        CHECK.same("top(0, 0, -1)", x.top(0, 0, -1), NONE);
        CHECK.same("top(0, 0, MAX)", x.top(0, 0, Integer.MAX_VALUE), NONE);
        CHECK.same("top(1, 0, 0), NUMBER", x.top(1, 0, 0), NONE);
        CHECK.same("top(2, 0, 0)", x.top(2, 0, 0), NONE);
        CHECK.same("top(-1, 0, 0)", x.top(-1, 0, 0), NONE);
        DrillCount y = flat(1, 3);
        tagged(y, 1, 0, 1);
        tagged(y, 1, 1);
        tagged(y, 1, 1, 2);
        row("ALL", top(y, 0, 0), 1, 0, 2);
        y.select(2, true);
        row("ALL: of the hits", top(y, 0, 0), 1, 2);
    }

    private static void promise31Forty() {
        DrillCount x = flat(0, 40);
        for (int d = 0; d < 40; d++) {
            tagged(x, d, 39);
            x.tag(d, 38, d > 0);
        }
        row("above 39", top(x, 0, 39), 39);
        row("above 38", top(x, 0, 38), 39, 38);
    }

    private static void promise32() {
        DrillCount x = flat(0, 3);
        for (int d = 0; d < 6; d++) {
            tagged(x, 90 - d, d < 4 ? 1 : 2);
        }
        CHECK.same("read(0, 1): 1 has 3, none of the others can have more", x.read(0, 1), 4);
        CHECK.same("read(0, 2)", x.read(0, 2), 6);
        CHECK.same("read(0, 3), all", x.read(0, 3), 0);
        CHECK.same("read(0, 9)", x.read(0, 9), 0);
        CHECK.same("read(0, 0)", x.read(0, 0), NONE);
        CHECK.same("read(0, 10)", x.read(0, 10), NONE);
        CHECK.same("read(1, 1), NUMBER", x.read(1, 1), NONE);
        CHECK.same("read(2, 1)", x.read(2, 1), NONE);
        CHECK.same("read(-1, 1)", x.read(-1, 1), NONE);
        CHECK.same("no category", flat(1, 0).read(0, 1), 0);
        CHECK.same("no document", flat(0, 30).read(0, 1), 0);
    }

    /** Those that SHOWN does not count are read, too, and are among those not read yet. */
    private static void promise32NotNear() {
        DrillCount x = flat(0, 2);
        for (int d = 0; d < 6; d++) {
            tagged(x, 90 - d, 0);
            x.number(d, 1, d);
        }
        CHECK.same("of equal ones the lower", x.read(0, 1), 3);
        x.select(1, true);
        CHECK.same("ANY: its own axis lifted", x.read(0, 1), 3);
        x.open(0);
        x.range(1, 2, 9);
        CHECK.same("0 and 1 do not count", x.read(0, 1), 4);
        x.drop(1, 0);
        x.range(1, 0, 1);
        CHECK.same("2 to 5 do not count, but are not read yet", x.read(0, 1), 4);
        DrillCount y = flat(1, 2);
        tagged(y, 9, 0);
        tagged(y, 8, 0, 1);
        tagged(y, 7, 1);
        CHECK.same("ALL", y.read(0, 1), 2);
        y.select(1, true);
        CHECK.same("ALL: only 1 and 2 are hits", y.read(0, 1), 3);
        y.select(0, true);
        CHECK.same("ALL: only 1 is a hit", y.read(0, 1), 3);
    }

    private static void promise32Ties() {
        DrillCount low = flat(0, 2);
        DrillCount high = flat(0, 2);
        for (int d = 0; d < 4; d++) {
            tagged(low, 50, 0);
            tagged(high, 50, 1);
        }
        CHECK.same("as many and lower", low.read(0, 1), 2);
        CHECK.same("as many and not lower", high.read(0, 1), 3);
        tagged(high, 50, 1);
        CHECK.same("one more is enough", high.read(0, 1), 3);
    }

    private static void promise33() {
        DrillCount x = new DrillCount();
        x.axis(0);
        x.axis(2);
        x.category(0, NONE);
        x.category(0, NONE);
        x.category(0, 1);
        x.category(0, 1);
        x.category(0, 3);
        x.category(0, 0);
        CHECK.same("path(0, 0), nothing is shown", x.path(0, 0), NONE);
        tagged(x, 1, 4, 2);
        tagged(x, 2, 3);
        tagged(x, 3, 5);
        x.number(0, 1, 1);
        x.number(2, 1, 1);
        int[] due = {1, 3, 4};
        for (int i = 0; i < due.length; i++) {
            CHECK.same("path(0, " + i + ")", x.path(0, i), due[i]);
        }
        CHECK.same("path(0, 3)", x.path(0, 3), NONE);
        x.range(1, 1, 1);
        CHECK.same("of equal ones the lowest", x.path(0, 0), 0);
        CHECK.same("and below it", x.path(0, 1), 5);
        x.select(1, true);
        CHECK.same("its own axis lifted", x.path(0, 0), 0);
        x.remove(2);
        CHECK.same("path(0, 0)", x.path(0, 0), 1);
        CHECK.same("path(0, 1), of equal ones the lowest", x.path(0, 1), 2);
        CHECK.same("path(0, 2), nothing below", x.path(0, 2), NONE);
        CHECK.same("path(0, -1)", x.path(0, -1), NONE);
        CHECK.same("path(0, MAX)", x.path(0, Integer.MAX_VALUE), NONE);
        CHECK.same("path(1, 0), NUMBER", x.path(1, 0), NONE);
        CHECK.same("path(2, 0)", x.path(2, 0), NONE);
        CHECK.same("path(-1, 0)", x.path(-1, 0), NONE);
        for (int c = 6; c < 9; c++) {
            x.category(0, c == 6 ? 4 : c - 1);
        }
        tagged(x, 4, 8);
        x.number(3, 1, 1);
        CHECK.same("path(0, 4)", x.path(0, 4), 7);
        CHECK.same("path(0, 5), the deepest", x.path(0, 5), 8);
        CHECK.same("path(0, 6)", x.path(0, 6), NONE);
        DrillCount y = flat(1, 3);
        tagged(y, 1, 0);
        tagged(y, 1, 0);
        tagged(y, 1, 1, 2);
        CHECK.same("ALL", y.path(0, 0), 0);
        y.select(2, true);
        CHECK.same("ALL: of the hits", y.path(0, 0), 1);
    }

    private static void promise34() {
        DrillCount x = flat(0, 4);
        CHECK.same("nothing there, the lowest", x.split(), 0);
        for (int d = 0; d < 6; d++) {
            tagged(x, d, 0);
            x.tag(d, 1, d < 4);
            x.tag(d, 2, d < 3);
            x.tag(d, 3, d > 2);
        }
        CHECK.same("half of them, of equal ones the lowest", x.split(), 2);
        x.tag(2, 2, false);
        x.tag(5, 3, false);
        CHECK.same("4 of 6 and 2 of 6 are as near", x.split(), 1);
        x.select(1, true);
        CHECK.same("shown 6, 2, 2 to 4 hits, 1 is selected", x.split(), 2);
        x.select(2, true);
        x.select(3, true);
        CHECK.same("the only one", x.split(), 0);
        x.select(0, true);
        CHECK.same("all are selected", x.split(), NONE);
        DrillCount y = flat(0, 2);
        for (int d = 0; d < 8; d++) {
            tagged(y, d, 0);
            y.tag(d, 1, d < 2);
            y.number(d, 1, d);
        }
        y.range(1, 0, 3);
        CHECK.same("half of four hits, of eight there", y.split(), 1);
        y.drop(1, 0);
        y.category(0, NONE);
        y.tag(7, 2, true);
        y.select(2, true);
        CHECK.same("one hit: shown 2 is nearer than 8", y.split(), 1);
        CHECK.same("no category", flat(1, 0).split(), NONE);
    }

    private static void cover(String name, DrillCount x, int... due) {
        CHECK.same(name + ", how many", x.cover(0, NONE), due.length);
        for (int i = 0; i < due.length; i++) {
            CHECK.same(name + ", the " + i + "-th", x.cover(0, i), due[i]);
        }
        CHECK.same(name + ", none such", x.cover(0, due.length), NONE);
    }

    private static void promise35() {
        DrillCount x = flat(0, 5);
        cover("nothing to cover", x);
        tagged(x, 1);
        cover("one that is missing", x);
        tagged(x, 1, 0, 1);
        tagged(x, 1, 1, 2);
        tagged(x, 1, 2, 3);
        tagged(x, 1, 3, 4);
        cover("two do", x, 1, 3);
        tagged(x, 1, 4);
        cover("three do", x, 0, 2, 4);
        x.remove(1);
        cover("two do", x, 2, 4);
        x.select(0, true);
        cover("no hit is left", x);
        x.open(0);
        x.select(4, true);
        cover("only hits are to be covered", x, 4);
        CHECK.same("cover(0, -2)", x.cover(0, -2), NONE);
        CHECK.same("cover(0, MIN)", x.cover(0, Integer.MIN_VALUE), NONE);
        CHECK.same("cover(0, MAX)", x.cover(0, Integer.MAX_VALUE), NONE);
        CHECK.same("cover(1, NONE), NUMBER", x.cover(1, NONE), NONE);
        CHECK.same("cover(2, NONE)", x.cover(2, NONE), NONE);
        CHECK.same("cover(-1, NONE)", x.cover(-1, NONE), NONE);
    }

    private static void promise35First() {
        DrillCount x = flat(0, 12);
        tagged(x, 1, 11, 3);
        tagged(x, 1, 10, 4);
        cover("the first by numbers", x, 3, 4);
        tagged(x, 1, 9, 0);
        tagged(x, 1, 0, 3);
        cover("the lowest first", x, 0, 3, 4);
        DrillCount y = flat(1, 12);
        for (int c = 0; c < 12; c++) {
            tagged(y, 1, c);
        }
        cover("all twelve", y, 0, 1, 2, 3, 4, 5, 6, 7, 8, 9, 10, 11);
        y.category(0, NONE);
        CHECK.same("more than 12", y.cover(0, NONE), NONE);
        CHECK.same("more than 12", y.cover(0, 0), NONE);
        y.move(12, 0);
        cover("0 may not be taken any more, 12 may", flatBelow(), 1, 2);
        CHECK.same("0 is not one of them, but its document needs it", y.cover(0, NONE), NONE);
    }

    /** 0 at the top with 1 and 2 below it, three documents of which none has 1 and 2. */
    private static DrillCount flatBelow() {
        DrillCount x = flat(0, 1);
        x.category(0, 0);
        x.category(0, 0);
        tagged(x, 1, 1);
        tagged(x, 1, 2);
        tagged(x, 1, 0, 2);
        return x;
    }

    private static void promise35None() {
        DrillCount x = flatBelow();
        tagged(x, 1, 0);
        CHECK.same("one is tagged at the top alone", x.cover(0, NONE), NONE);
        CHECK.same("the first of none", x.cover(0, 0), NONE);
        x.remove(3);
        cover("without it", x, 1, 2);
        x.category(0, 1);
        x.tag(1, 3, true);
        cover("level 1 may be taken, though one is below it", x, 1, 2);
        x.tag(2, 3, true);
        cover("1 by what is below it", x, 1);
    }

    private static void promise36() {
        DrillCount x = flat(0, 3);
        x.axis(1);
        x.category(2, NONE);
        x.category(0, 0);
        tagged(x, 1, 0, 1, 3);
        tagged(x, 1, 4, 1);
        tagged(x, 1, 2, 3);
        CHECK.same("both(0, 1)", x.both(0, 1), 2);
        CHECK.same("both(1, 0)", x.both(1, 0), 2);
        CHECK.same("both(0, 3), of two axes", x.both(0, 3), 1);
        CHECK.same("both(0, 2)", x.both(0, 2), 0);
        CHECK.same("both(0, 4), one above the other", x.both(0, 4), 1);
        CHECK.same("both(0, 0)", x.both(0, 0), 2);
        x.select(3, true);
        CHECK.same("both(0, 1), of the hits", x.both(0, 1), 1);
        x.select(2, true);
        CHECK.same("both(0, 1), its own axis is not lifted", x.both(0, 1), 0);
        CHECK.same("both(0, 5)", x.both(0, 5), NONE);
        CHECK.same("both(5, 0)", x.both(5, 0), NONE);
        CHECK.same("both(-1, 0)", x.both(-1, 0), NONE);
        CHECK.same("both(0, -1)", x.both(0, -1), NONE);
    }

    private static void promise37() {
        DrillCount x = flat(0, 2);
        x.category(0, 0);
        x.category(0, 0);
        x.axis(1);
        x.category(2, NONE);
        tagged(x, 1, 2, 4);
        tagged(x, 1, 3, 4);
        tagged(x, 1, 1);
        tagged(x, 1, 2, 4);
        CHECK.same("alike(0, 1): 0 and 4", x.alike(0, 1), 2);
        CHECK.same("alike(1, 0)", x.alike(1, 0), 2);
        CHECK.same("alike(0, 3): 0, 2 and 4", x.alike(0, 3), 3);
        CHECK.same("alike(0, 2)", x.alike(0, 2), 0);
        CHECK.same("alike(0, 0)", x.alike(0, 0), NONE);
        x.select(1, true);
        CHECK.same("alike(0, 1), no hits", x.alike(0, 1), 2);
        x.remove(3);
        CHECK.same("alike(0, 3), not there", x.alike(0, 3), NONE);
        CHECK.same("alike(3, 0), not there", x.alike(3, 0), NONE);
        CHECK.same("alike(0, 4)", x.alike(0, 4), NONE);
        CHECK.same("alike(-1, 0)", x.alike(-1, 0), NONE);
        CHECK.same("alike(0, -1)", x.alike(0, -1), NONE);
    }

    private static void promise38() {
        DrillCount x = flat(0, 4);
        tagged(x, 10, 0, 1, 2);
        CHECK.same("nearest(0), no other one", x.nearest(0), NONE);
        tagged(x, 10, 3);
        CHECK.same("nearest(0), nothing alike", x.nearest(0), 1);
        tagged(x, 20, 0, 1);
        tagged(x, 20, 1, 2);
        tagged(x, 99, 2);
        CHECK.same("nearest(0), of equal ones the first in order", x.nearest(0), 2);
        CHECK.same("nearest(1), the first in order", x.nearest(1), 4);
        CHECK.same("nearest(4), of 0 and 3 the one with the score", x.nearest(4), 3);
        x.select(3, true);
        CHECK.same("nearest(0), no hits", x.nearest(0), 2);
        x.remove(2);
        CHECK.same("nearest(0), 2 is not there", x.nearest(0), 3);
        CHECK.same("nearest(2), not there", x.nearest(2), NONE);
        CHECK.same("nearest(5)", x.nearest(5), NONE);
        CHECK.same("nearest(-1)", x.nearest(-1), NONE);
    }

    private static void promise40() {
        DrillCount x = flat(0, 3);
        x.category(0, 0);
        CHECK.same("most(), none", x.most(), NONE);
        tagged(x, 10);
        CHECK.same("most(), it has none", x.most(), 0);
        tagged(x, 10, 1, 2);
        tagged(x, 10, 3);
        CHECK.same("most(), of equal ones by numbers", x.most(), 1);
        tagged(x, 11, 3);
        CHECK.same("most(), of equal ones by scores", x.most(), 3);
        tagged(x, 1, 1, 2, 3);
        CHECK.same("most(), by what is above, too", x.most(), 4);
        x.select(3, true);
        x.tag(4, 3, false);
        CHECK.same("most(), of the hits", x.most(), 3);
        x.remove(2);
        x.remove(3);
        CHECK.same("most(), no hit", x.most(), NONE);
    }
}
