/** Promises 1 to 9: what there is. */
public final class BuildTest {

    private static final int NONE = DrillCount.NONE;
    private static final Check CHECK = new Check();

    public static void main(String[] args) {
        promise1();
        promise2();
        promise3();
        promise4();
        promise4LowNumbersBelow();
        promise4KeepsTags();
        promise5();
        promise6();
        promise7();
        promise8();
        promise9();
        CHECK.end("BuildTest");
    }

    private static void promise1() {
        DrillCount x = new DrillCount();
        CHECK.same("NONE", DrillCount.NONE, -1);
        for (int what = 0; what <= 8; what++) {
            CHECK.same("count(" + what + ") of a new one", x.count(what), 0);
        }
        CHECK.same("hit(0)", x.hit(0), NONE);
        CHECK.same("most()", x.most(), NONE);
        CHECK.same("split()", x.split(), NONE);
        CHECK.same("of(0, 0)", x.of(0, 0), NONE);
        CHECK.same("doc(0, 0)", x.doc(0, 0), NONE);
        CHECK.no("back()", x.back());
        DrillCount y = new DrillCount();
        y.axis(0);
        CHECK.same("count(0) beside another one", x.count(0), 0);
    }

    private static void promise2() {
        DrillCount x = new DrillCount();
        CHECK.same("axis(3)", x.axis(3), NONE);
        CHECK.same("axis(-1)", x.axis(-1), NONE);
        CHECK.same("axis(MIN)", x.axis(Integer.MIN_VALUE), NONE);
        for (int a = 0; a < 5; a++) {
            CHECK.same("axis(" + a % 3 + ")", x.axis(a % 3), a);
        }
        CHECK.same("a sixth axis", x.axis(0), NONE);
        CHECK.same("count(0)", x.count(0), 5);
        CHECK.same("category on ANY", x.category(0, NONE), 0);
        CHECK.same("category on ALL", x.category(1, NONE), 1);
        CHECK.same("range on NUMBER", x.range(2, 1, 2), 0);
        DrillCount y = new DrillCount();
        y.document(3);
        y.axis(0);
        CHECK.same("a new axis is open: all are hits", y.count(4), 1);
        CHECK.same("and it is passed", y.doc(0, 3), 1);
    }

    private static void promise3() {
        DrillCount x = new DrillCount();
        CHECK.same("category(0, NONE), no axis", x.category(0, NONE), NONE);
        x.axis(0);
        x.axis(1);
        x.axis(2);
        CHECK.same("category(-1, NONE)", x.category(-1, NONE), NONE);
        CHECK.same("category(3, NONE)", x.category(3, NONE), NONE);
        CHECK.same("category on NUMBER", x.category(2, NONE), NONE);
        CHECK.same("category(0, 0), not yet there", x.category(0, 0), NONE);
        CHECK.same("category(0, -2)", x.category(0, -2), NONE);
        CHECK.same("category(0, NONE)", x.category(0, NONE), 0);
        CHECK.same("category(1, 0), of another axis", x.category(1, 0), NONE);
        for (int level = 1; level <= 5; level++) {
            CHECK.same("category of level " + level, x.category(0, level - 1), level);
            CHECK.same("its level", x.of(level, 2), level);
        }
        CHECK.same("category of level 6", x.category(0, 5), NONE);
        for (int c = 6; c < 40; c++) {
            CHECK.same("category(1, NONE)", x.category(1, NONE), c);
        }
        CHECK.same("a 41st category", x.category(1, NONE), NONE);
        CHECK.same("a 41st category, below one", x.category(0, 0), NONE);
        CHECK.same("count(1)", x.count(1), 40);
    }

    private static void promise4() {
        DrillCount x = new DrillCount();
        x.axis(0);
        x.axis(1);
        for (int c = 0; c < 4; c++) {
            x.category(0, c - 1);
        }
        x.category(0, NONE);
        x.category(1, NONE);
        CHECK.no("move(-1, NONE)", x.move(-1, NONE));
        CHECK.no("move(6, NONE)", x.move(6, NONE));
        CHECK.no("move(4, 6)", x.move(4, 6));
        CHECK.no("move(4, -2)", x.move(4, -2));
        CHECK.no("move below one of another axis", x.move(4, 5));
        CHECK.no("move below itself", x.move(1, 1));
        CHECK.no("move below its own", x.move(1, 3));
        CHECK.no("move below its own, no level would be too deep", x.move(2, 3));
        CHECK.yes("move to where it is", x.move(1, 0));
        CHECK.yes("move from the top to the top", x.move(0, NONE));
        CHECK.yes("move(4, 1)", x.move(4, 1));
        CHECK.same("its level", x.of(4, 2), 2);
        CHECK.same("how many below 0", x.of(0, 4), 4);
        CHECK.yes("move(2, NONE)", x.move(2, NONE));
        CHECK.same("above 2", x.of(2, 1), NONE);
        CHECK.same("level of 3, that came along", x.of(3, 2), 1);
        CHECK.same("how many below 0", x.of(0, 4), 2);
        CHECK.same("how many below 2", x.of(2, 4), 1);
        CHECK.yes("move(0, 3): 3 is at level 1, 4 comes to level 4", x.move(0, 3));
        CHECK.same("level of 4", x.of(4, 2), 4);
        x.category(0, 4);
        CHECK.same("level of 6", x.of(6, 2), 5);
        x.category(0, NONE);
        CHECK.no("one would be of level 6", x.move(2, 7));
        CHECK.same("level of 6 stays", x.of(6, 2), 5);
        CHECK.yes("move(3, 7): 6 is at level 5 again", x.move(3, 7));
        CHECK.same("how many below 2", x.of(2, 4), 0);
        CHECK.same("how many below 7", x.of(7, 4), 5);
    }

    /** What is below need not have the higher number. */
    private static void promise4LowNumbersBelow() {
        DrillCount x = new DrillCount();
        x.axis(0);
        x.category(0, NONE);
        for (int c = 1; c <= 6; c++) {
            x.category(0, c == 1 ? NONE : c - 1);
        }
        x.category(0, NONE);
        CHECK.same("level of 6", x.of(6, 2), 5);
        CHECK.yes("move(0, 5)", x.move(0, 5));
        CHECK.yes("move(6, NONE)", x.move(6, NONE));
        CHECK.no("0 would be of level 6", x.move(1, 7));
        CHECK.same("level of 0", x.of(0, 2), 5);
        x.document(1);
        x.tag(0, 0, true);
        CHECK.yes("has(0, 1), by one of level 5", x.has(0, 1));
        x.tag(0, 0, false);
        CHECK.no("has(0, 1)", x.has(0, 1));
    }

    private static void promise4KeepsTags() {
        DrillCount x = new DrillCount();
        x.axis(0);
        x.category(0, NONE);
        x.category(0, 0);
        x.category(0, 1);
        x.category(0, NONE);
        x.document(5);
        x.tag(0, 2, true);
        x.select(1, true);
        CHECK.yes("has(0, 0)", x.has(0, 0));
        CHECK.yes("move(1, 3)", x.move(1, 3));
        CHECK.no("has(0, 0) behind the move", x.has(0, 0));
        CHECK.yes("has(0, 3) behind the move", x.has(0, 3));
        CHECK.yes("has(0, 1) behind the move", x.has(0, 1));
        CHECK.same("still selected", x.of(1, 3), 1);
        CHECK.same("still a hit", x.count(4), 1);
        x.move(2, NONE);
        CHECK.same("hits, when what it is tagged with has left", x.count(4), 0);
        CHECK.yes("back() takes back the select, not the moves", x.back());
        CHECK.same("above 1", x.of(1, 1), 3);
        CHECK.same("hits", x.count(4), 1);
    }

    private static void promise5() {
        DrillCount x = new DrillCount();
        CHECK.same("document(-1)", x.document(-1), NONE);
        CHECK.same("document(100)", x.document(100), NONE);
        CHECK.same("document(0)", x.document(0), 0);
        CHECK.same("document(99)", x.document(99), 1);
        x.remove(0);
        for (int d = 2; d < 40; d++) {
            CHECK.same("document(" + d + ")", x.document(d), d);
        }
        CHECK.same("a 41st document", x.document(7), NONE);
        CHECK.same("how many have been", x.count(2), 40);
        CHECK.same("how many are there", x.count(3), 39);
        CHECK.same("score of 1", x.doc(1, 0), 99);
        CHECK.same("score of 39", x.doc(39, 0), 39);
    }

    private static void promise6() {
        DrillCount x = new DrillCount();
        x.axis(0);
        x.category(0, NONE);
        x.category(0, 0);
        x.document(1);
        x.document(2);
        CHECK.no("tag(-1, 0, true)", x.tag(-1, 0, true));
        CHECK.no("tag(2, 0, true)", x.tag(2, 0, true));
        CHECK.no("tag(0, -1, true)", x.tag(0, -1, true));
        CHECK.no("tag(0, 2, true)", x.tag(0, 2, true));
        CHECK.no("tag off, it is not", x.tag(0, 1, false));
        CHECK.yes("tag(0, 1, true)", x.tag(0, 1, true));
        CHECK.no("tag(0, 1, true) again", x.tag(0, 1, true));
        CHECK.no("it has 0, but is not tagged with it", x.tag(0, 0, false));
        CHECK.yes("tag with the one above, too", x.tag(0, 0, true));
        CHECK.yes("tag(0, 1, false)", x.tag(0, 1, false));
        CHECK.yes("has(0, 0) by its own tag", x.has(0, 0));
        CHECK.no("has(0, 1)", x.has(0, 1));
        CHECK.no("has(1, 0), the other one", x.has(1, 0));
        x.remove(0);
        CHECK.no("tag of one that is not there", x.tag(0, 1, true));
        CHECK.no("tag off of one that is not there", x.tag(0, 0, false));
    }

    private static void promise7() {
        DrillCount x = new DrillCount();
        x.axis(0);
        x.axis(2);
        x.axis(2);
        x.document(1);
        CHECK.no("number on a tree", x.number(0, 0, 1));
        CHECK.no("number(0, 3, 1)", x.number(0, 3, 1));
        CHECK.no("number(0, -1, 1)", x.number(0, -1, 1));
        CHECK.no("number(1, 1, 1)", x.number(1, 1, 1));
        CHECK.no("number(-1, 1, 1)", x.number(-1, 1, 1));
        CHECK.no("number 1000", x.number(0, 1, 1000));
        CHECK.no("number -1000", x.number(0, 1, -1000));
        CHECK.yes("number 999", x.number(0, 1, 999));
        CHECK.same("numberOf(0, 1)", x.numberOf(0, 1), 999);
        CHECK.yes("number -999 in its place", x.number(0, 1, -999));
        CHECK.same("numberOf(0, 1)", x.numberOf(0, 1), -999);
        CHECK.yes("the same number again", x.number(0, 1, -999));
        CHECK.noSuch("numberOf(0, 2)", () -> x.numberOf(0, 2));
        x.remove(0);
        CHECK.no("number of one that is not there", x.number(0, 1, 3));
    }

    private static void promise8() {
        DrillCount x = new DrillCount();
        x.axis(2);
        x.axis(0);
        x.document(1);
        x.document(1);
        CHECK.no("unnumber, it has none", x.unnumber(0, 0));
        x.number(0, 0, 0);
        x.number(1, 0, 4);
        CHECK.no("unnumber(0, 1), a tree", x.unnumber(0, 1));
        CHECK.no("unnumber(0, 2)", x.unnumber(0, 2));
        CHECK.no("unnumber(0, -1)", x.unnumber(0, -1));
        CHECK.no("unnumber(2, 0)", x.unnumber(2, 0));
        CHECK.no("unnumber(-1, 0)", x.unnumber(-1, 0));
        CHECK.yes("unnumber(0, 0)", x.unnumber(0, 0));
        CHECK.no("unnumber(0, 0) again", x.unnumber(0, 0));
        CHECK.noSuch("numberOf(0, 0)", () -> x.numberOf(0, 0));
        CHECK.same("numberOf(1, 0) stays", x.numberOf(1, 0), 4);
        CHECK.same("shownMissing(0)", x.shownMissing(0), 1);
        x.remove(1);
        CHECK.no("unnumber of one that is not there", x.unnumber(1, 0));
    }

    private static void promise9() {
        DrillCount x = new DrillCount();
        x.axis(0);
        x.category(0, NONE);
        CHECK.no("remove(0), none yet", x.remove(0));
        for (int d = 0; d < 3; d++) {
            x.document(d);
            x.tag(d, 0, true);
        }
        CHECK.no("remove(-1)", x.remove(-1));
        CHECK.no("remove(3)", x.remove(3));
        CHECK.yes("remove(1)", x.remove(1));
        CHECK.no("remove(1) again", x.remove(1));
        CHECK.same("there", x.count(3), 2);
        CHECK.same("have been", x.count(2), 3);
        CHECK.same("hits", x.count(4), 2);
        CHECK.same("shown(0)", x.shown(0), 2);
        CHECK.no("has(1, 0)", x.has(1, 0));
        CHECK.same("hit(0)", x.hit(0), 2);
        CHECK.same("hit(1)", x.hit(1), 0);
        CHECK.same("its number does not come again", x.document(9), 3);
    }
}
