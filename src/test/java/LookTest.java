/** Promises 16 to 20 and 42: single categories and documents, hits, counts. */
public final class LookTest {

    private static final int NONE = DrillCount.NONE;
    private static final Check CHECK = new Check();

    public static void main(String[] args) {
        promise16();
        promise17();
        promise18();
        promise19();
        promise20();
        promise42();
        CHECK.end("LookTest");
    }

    private static void promise16() {
        DrillCount x = new DrillCount();
        x.axis(2);
        x.axis(1);
        x.category(1, NONE);
        x.category(1, 0);
        x.category(1, 1);
        x.category(1, 0);
        CHECK.same("of(2, 0)", x.of(2, 0), 1);
        CHECK.same("of(2, 1)", x.of(2, 1), 1);
        CHECK.same("of(0, 1)", x.of(0, 1), NONE);
        CHECK.same("of(0, 2)", x.of(0, 2), 0);
        CHECK.same("of(2, 2)", x.of(2, 2), 2);
        CHECK.same("of(2, 3)", x.of(2, 3), 0);
        x.select(2, true);
        CHECK.same("of(2, 3), selected", x.of(2, 3), 1);
        CHECK.same("of(1, 3), the one above is not", x.of(1, 3), 0);
        CHECK.same("of(0, 4)", x.of(0, 4), 3);
        CHECK.same("of(1, 4)", x.of(1, 4), 1);
        CHECK.same("of(3, 4)", x.of(3, 4), 0);
        CHECK.same("of(0, 5)", x.of(0, 5), NONE);
        CHECK.same("of(0, -1)", x.of(0, -1), NONE);
        CHECK.same("of(4, 0)", x.of(4, 0), NONE);
        CHECK.same("of(-1, 0)", x.of(-1, 0), NONE);
        CHECK.same("of(MAX, 0)", x.of(Integer.MAX_VALUE, 0), NONE);
    }

    private static void promise17() {
        DrillCount x = new DrillCount();
        x.axis(0);
        x.axis(2);
        x.category(0, NONE);
        x.document(30);
        x.document(60);
        x.document(30);
        x.tag(1, 0, true);
        x.number(0, 1, 3);
        x.select(0, true);
        x.range(1, 3, 3);
        CHECK.same("doc(1, 0)", x.doc(1, 0), 60);
        CHECK.same("doc(1, 1)", x.doc(1, 1), 1);
        CHECK.same("doc(1, 2)", x.doc(1, 2), 0);
        CHECK.same("doc(0, 3)", x.doc(0, 3), 2);
        CHECK.same("doc(1, 3)", x.doc(1, 3), 1);
        CHECK.same("doc(2, 3)", x.doc(2, 3), 0);
        x.number(1, 1, 3);
        CHECK.same("doc(1, 2)", x.doc(1, 2), 1);
        CHECK.same("doc(1, 3)", x.doc(1, 3), 3);
        CHECK.same("doc(1, 4)", x.doc(1, 4), 0);
        CHECK.same("doc(0, 4)", x.doc(0, 4), 1);
        CHECK.same("doc(2, 4)", x.doc(2, 4), 2);
        CHECK.same("doc(0, 5)", x.doc(0, 5), NONE);
        CHECK.same("doc(0, -1)", x.doc(0, -1), NONE);
        CHECK.same("doc(3, 0)", x.doc(3, 0), NONE);
        CHECK.same("doc(-1, 0)", x.doc(-1, 0), NONE);
        x.remove(1);
        CHECK.same("doc(1, 0), not there", x.doc(1, 0), 60);
        CHECK.same("doc(1, 1), not there", x.doc(1, 1), 0);
        CHECK.same("doc(1, 2), not there", x.doc(1, 2), 0);
        CHECK.same("doc(1, 3), not there", x.doc(1, 3), NONE);
        CHECK.same("doc(1, 4), not there", x.doc(1, 4), NONE);
        CHECK.same("doc(1, 5), not there", x.doc(1, 5), NONE);
        CHECK.same("doc(2, 4) comes up", x.doc(2, 4), 1);
    }

    private static void promise18() {
        DrillCount x = new DrillCount();
        x.axis(0);
        x.axis(1);
        x.category(0, NONE);
        x.category(0, 0);
        x.category(0, 1);
        x.category(1, NONE);
        x.document(1);
        x.document(1);
        x.tag(0, 1, true);
        CHECK.yes("has(0, 1), tagged", x.has(0, 1));
        CHECK.yes("has(0, 0), above it", x.has(0, 0));
        CHECK.no("has(0, 2), below it", x.has(0, 2));
        CHECK.no("has(0, 3)", x.has(0, 3));
        CHECK.no("has(1, 1)", x.has(1, 1));
        x.tag(1, 2, true);
        CHECK.yes("has(1, 0), two levels above", x.has(1, 0));
        CHECK.no("has(-1, 0)", x.has(-1, 0));
        CHECK.no("has(2, 0)", x.has(2, 0));
        CHECK.no("has(0, -1)", x.has(0, -1));
        CHECK.no("has(0, 4)", x.has(0, 4));
        CHECK.no("has(64, 0)", x.has(64, 0));
        x.remove(0);
        CHECK.no("has(0, 1), not there", x.has(0, 1));
    }

    private static void promise19() {
        DrillCount x = new DrillCount();
        x.axis(2);
        x.axis(0);
        x.document(1);
        x.document(1);
        x.number(0, 0, -7);
        CHECK.same("numberOf(0, 0)", x.numberOf(0, 0), -7);
        CHECK.noSuch("numberOf(1, 0), none", () -> x.numberOf(1, 0));
        CHECK.noSuch("numberOf(0, 1), a tree", () -> x.numberOf(0, 1));
        CHECK.noSuch("numberOf(0, 2)", () -> x.numberOf(0, 2));
        CHECK.noSuch("numberOf(0, -1)", () -> x.numberOf(0, -1));
        CHECK.noSuch("numberOf(2, 0)", () -> x.numberOf(2, 0));
        CHECK.noSuch("numberOf(-1, 0)", () -> x.numberOf(-1, 0));
        x.remove(0);
        CHECK.noSuch("numberOf(0, 0), not there", () -> x.numberOf(0, 0));
    }

    private static void promise20() {
        DrillCount x = new DrillCount();
        x.axis(0);
        x.category(0, NONE);
        int[] scores = {10, 40, 10, 99, 40};
        for (int d = 0; d < scores.length; d++) {
            x.document(scores[d]);
        }
        int[] order = {3, 1, 4, 0, 2};
        for (int i = 0; i < order.length; i++) {
            CHECK.same("hit(" + i + ")", x.hit(i), order[i]);
        }
        CHECK.same("hit(5)", x.hit(5), NONE);
        CHECK.same("hit(-1)", x.hit(-1), NONE);
        CHECK.same("hit(MIN)", x.hit(Integer.MIN_VALUE), NONE);
        x.tag(2, 0, true);
        x.tag(4, 0, true);
        x.select(0, true);
        CHECK.same("hit(0)", x.hit(0), 4);
        CHECK.same("hit(1)", x.hit(1), 2);
        CHECK.same("hit(2)", x.hit(2), NONE);
        x.document(40);
        x.tag(5, 0, true);
        CHECK.same("hit(1), of equal ones by numbers", x.hit(1), 5);
    }

    private static void promise42() {
        DrillCount x = new DrillCount();
        x.axis(0);
        x.axis(1);
        x.axis(2);
        x.axis(2);
        x.category(0, NONE);
        x.category(0, NONE);
        x.category(1, NONE);
        for (int d = 0; d < 5; d++) {
            x.document(d);
            x.tag(d, 2, true);
        }
        x.tag(0, 0, true);
        x.tag(1, 1, true);
        x.remove(4);
        x.select(0, true);
        x.select(1, true);
        x.select(2, true);
        x.range(3, 0, 1);
        x.range(3, 0, 1);
        x.range(2, 0, 1);
        x.open(2);
        x.missing(3, true);
        int[] due = {4, 3, 5, 4, 2, 3, 2, 11, 8};
        for (int what = 0; what < due.length; what++) {
            CHECK.same("count(" + what + ")", x.count(what), due[what]);
        }
        CHECK.same("count(9)", x.count(9), NONE);
        CHECK.same("count(-1)", x.count(-1), NONE);
        x.range(2, 5, 6);
        CHECK.same("count(6) of two axes", x.count(6), 3);
        DrillCount y = new DrillCount();
        for (int a = 0; a < 5; a++) {
            y.axis(2);
            y.range(a, 0, 0);
        }
        CHECK.same("count(6), all axes", y.count(6), 5);
        CHECK.same("count(7), all axes", y.count(7), 31);
        CHECK.same("count(4)", x.count(4), 0);
    }
}
