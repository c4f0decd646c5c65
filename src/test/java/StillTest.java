import java.util.ArrayList;
import java.util.List;

/**
 * What is refused changes nothing that other calls show, and no question changes anything. An
 * object that was asked for what it must refuse is held against a Model that was not: in all
 * questions, in what is selected, in what BACK gives, and in what can be done to it next.
 */
public final class StillTest {

    private static final int NONE = DrillCount.NONE;
    private static final int MIN = Integer.MIN_VALUE;
    private static final int MAX = Integer.MAX_VALUE;
    /** So many calls that must change nothing are made on one object, then it is looked at. */
    private static final int GROUP = 60;

    private static final int[] TRIED = {
        MIN, MIN + 1, -1000, -2, NONE, 0, 1, 2, 3, 4, 5, 6, 12, 13, 17, 39, 40, 41, 63, 64, 65, 99,
        100, 1000, MAX - 1, MAX,
    };
    private static final int[] TRIED_BY_THREES = {
        MIN, -1000, NONE, 0, 1, 2, 3, 4, 5, 17, 39, 40, 64, 1000, MAX,
    };

    private static final Check CHECK = new Check();

    private final Script state;
    private final List<List<Script.Call>> pictures = new ArrayList<>();
    private final List<List<String>> due = new ArrayList<>();

    private StillTest(Script state) {
        this.state = state;
        DrillCount x = state.on(new DrillCount());
        List<Script.Call> questions = questions(x.count(0), x.count(1), x.count(2));
        int most = Script.MOST_CALLS - state.size() - GROUP;
        for (int from = 0; from < questions.size(); from += most) {
            pictures.add(questions.subList(from, Math.min(from + most, questions.size())));
        }
        pictures.add(whatIsSelected());
        pictures.add(whatComesNext());
        for (List<Script.Call> picture : pictures) {
            CHECK.yes("an object is used for 512 calls",
                    state.size() + GROUP + picture.size() <= Script.MOST_CALLS);
            due.add(answers(state.on(new Model()), picture));
        }
    }

    public static void main(String[] args) {
        fullIsFull();
        for (Script state : States.all()) {
            CHECK.within(state.title);
            StillTest test = new StillTest(state);
            test.staysAsItIs(test.refused());
            test.staysAsItIs(wildQuestions());
        }
        CHECK.within("");
        CHECK.end("StillTest");
    }

    /** The states are worth trying only if they hold what their names say. */
    private static void fullIsFull() {
        int[][] counts = {{0, 0, 0, 0}, {5, 0, 0, 0}, {3, 6, 5, 4}, {5, 40, 40, 40},
            {5, 40, 40, 39}, {3, 14, 40, 0}};
        int[] steps = {0, 0, 3, 0, 16, 2};
        int[] narrow = {0, 0, 5, 0, 29, 3};
        for (int s = 0; s < counts.length; s++) {
            DrillCount x = States.all().get(s).on(new DrillCount());
            for (int what = 0; what < 4; what++) {
                CHECK.same("count(" + what + ") of state " + s, x.count(what), counts[s][what]);
            }
            CHECK.same("axes not open of state " + s, x.count(7), narrow[s]);
            CHECK.same("steps of state " + s, x.count(8), steps[s]);
        }
    }

    private void staysAsItIs(List<Script.Call> calls) {
        for (int from = 0; from < calls.size(); from += GROUP) {
            List<Script.Call> group = calls.subList(from, Math.min(from + GROUP, calls.size()));
            for (int p = 0; p < pictures.size(); p++) {
                DrillCount x = state.on(new DrillCount());
                answers(x, group);
                compare(group, pictures.get(p), answers(x, pictures.get(p)), due.get(p));
            }
        }
    }

    private static void compare(List<Script.Call> group, List<Script.Call> picture,
            List<String> got, List<String> want) {
        for (int i = 0; i < picture.size(); i++) {
            boolean same = got.get(i).equals(want.get(i));
            CHECK.note(same, same ? "" : picture.get(i) + " answered " + got.get(i) + ", due is "
                    + want.get(i) + ", behind one of " + group);
        }
    }

    private static List<String> answers(Object x, List<Script.Call> calls) {
        List<String> all = new ArrayList<>();
        for (Script.Call call : calls) {
            all.add(call.on(x));
        }
        return all;
    }

    /** Of all calls that change something those that the document refuses in this state. */
    private List<Script.Call> refused() {
        List<Script.Call> all = new ArrayList<>();
        for (Script.Call call : changes()) {
            String answer = call.on(state.on(new Model()));
            if (answer.equals("false") || answer.equals("-1")) {
                CHECK.note(call.on(state.on(new DrillCount())).equals(answer), call + " is taken");
                all.add(call);
            }
        }
        return all;
    }

    private static List<Script.Call> changes() {
        List<Script.Call> all = new ArrayList<>();
        all.add(new Script.Call("back"));
        for (int a : TRIED) {
            for (String name : new String[] {"axis", "document", "remove", "open"}) {
                all.add(new Script.Call(name, a));
            }
            for (boolean on : new boolean[] {true, false}) {
                all.add(new Script.Call("select", a, on));
                all.add(new Script.Call("missing", a, on));
            }
            for (int b : TRIED) {
                for (String name : new String[] {"category", "move", "unnumber", "drop"}) {
                    all.add(new Script.Call(name, a, b));
                }
                all.add(new Script.Call("tag", a, b, true));
                all.add(new Script.Call("tag", a, b, false));
            }
        }
        for (int a : TRIED_BY_THREES) {
            for (int b : TRIED_BY_THREES) {
                for (int c : TRIED_BY_THREES) {
                    all.add(new Script.Call("number", a, b, c));
                    all.add(new Script.Call("range", a, b, c));
                }
            }
        }
        return all;
    }

    private static List<Script.Call> wildQuestions() {
        List<Script.Call> all = new ArrayList<>();
        all.add(new Script.Call("split"));
        all.add(new Script.Call("most"));
        for (int a : TRIED) {
            for (String name : new String[] {"hit", "near", "shown", "shownMissing", "nearest",
                "miss", "count"}) {
                all.add(new Script.Call(name, a));
            }
            for (int b : TRIED) {
                for (String name : new String[] {"of", "doc", "has", "numberOf", "click", "lift",
                    "sums", "sets", "bins", "even", "read", "path", "cover", "both", "alike",
                    "middle"}) {
                    all.add(new Script.Call(name, a, b));
                }
            }
        }
        for (int a : TRIED_BY_THREES) {
            for (int b : new int[] {MIN, 0, 1, 3, 8, 9, 40, MAX}) {
                all.add(new Script.Call("top", a, b, 0));
                all.add(new Script.Call("bin", a, b, 0, 0));
                all.add(new Script.Call("bin", a, b, 1, 2));
            }
        }
        return all;
    }

    /** All that an object with so much in it shows. */
    private static List<Script.Call> questions(int axes, int categories, int documents) {
        List<Script.Call> all = new ArrayList<>();
        ask(all, "count", 9);
        ask(all, "miss", 6);
        all.add(new Script.Call("split"));
        all.add(new Script.Call("most"));
        ask(all, "hit", documents + 1);
        ask(all, "nearest", documents + 1);
        ask(all, "doc", documents + 1, 5);
        ask(all, "numberOf", documents + 1, axes);
        ask(all, "of", categories + 1, 5);
        ask(all, "shown", categories + 1);
        ask(all, "click", categories + 1, 3);
        ask(all, "sums", categories + 1, 2);
        ask(all, "near", axes + 1);
        ask(all, "shownMissing", axes + 1);
        ask(all, "lift", axes, axes);
        ask(all, "sets", axes, 2);
        ask(all, "middle", axes, 2);
        ask(all, "even", axes, 9);
        ask(all, "read", axes, 10);
        ask(all, "path", axes, 7);
        ask(all, "cover", axes, 13);
        for (int axis = 0; axis < axes; axis++) {
            all.add(new Script.Call("cover", axis, NONE));
            for (int i = 0; i < 13; i++) {
                all.add(new Script.Call("top", axis, i % 3, i));
            }
            for (int k = 1; k <= 8; k++) {
                all.add(new Script.Call("bins", axis, k));
                for (int what = 0; what < 3; what++) {
                    all.add(new Script.Call("bin", axis, k, k / 2, what));
                }
            }
        }
        for (int d = 0; d < documents; d++) {
            all.add(new Script.Call("alike", d, (d * 3 + 1) % documents));
            for (int c = d % 4; c < categories; c += 4) {
                all.add(new Script.Call("has", d, c));
            }
        }
        for (int c = 0; c < categories; c++) {
            all.add(new Script.Call("both", c, (c * 3 + 1) % categories));
        }
        return all;
    }

    private static void ask(List<Script.Call> all, String name, int ways) {
        for (int a = 0; a < ways; a++) {
            all.add(new Script.Call(name, a));
        }
    }

    private static void ask(List<Script.Call> all, String name, int ways, int whats) {
        for (int a = 0; a < ways; a++) {
            for (int b = 0; b < whats; b++) {
                all.add(new Script.Call(name, a, b));
            }
        }
    }

    /** What is selected, taken away bit by bit. */
    private static List<Script.Call> whatIsSelected() {
        List<Script.Call> all = new ArrayList<>();
        for (int axis = 0; axis < 5; axis++) {
            all.add(new Script.Call("missing", axis, false));
            for (int i = 2; i >= 0; i--) {
                all.add(new Script.Call("count", 4));
                all.add(new Script.Call("drop", axis, i));
            }
        }
        for (int c = 0; c < 40; c++) {
            all.add(new Script.Call("select", c, false));
            all.add(new Script.Call("count", 7));
        }
        return all;
    }

    /** What can be taken back, and the numbers that are told next. */
    private static List<Script.Call> whatComesNext() {
        List<Script.Call> all = new ArrayList<>();
        for (int step = 0; step < 17; step++) {
            all.add(new Script.Call("back"));
            for (int what = 4; what <= 8; what++) {
                all.add(new Script.Call("count", what));
            }
            all.add(new Script.Call("hit", step % 3));
        }
        for (int axis = 0; axis < 5; axis++) {
            all.add(new Script.Call("range", axis, -3, 3));
            all.add(new Script.Call("drop", axis, 0));
            all.add(new Script.Call("missing", axis, true));
            all.add(new Script.Call("count", 4));
        }
        all.add(new Script.Call("axis", 2));
        all.add(new Script.Call("category", 0, NONE));
        all.add(new Script.Call("move", 0, 1));
        all.add(new Script.Call("document", 99));
        all.add(new Script.Call("hit", 0));
        all.add(new Script.Call("tag", 0, 0, true));
        all.add(new Script.Call("number", 0, 2, 5));
        for (int what = 0; what <= 8; what++) {
            all.add(new Script.Call("count", what));
        }
        return all;
    }
}
