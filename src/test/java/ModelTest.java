import java.util.ArrayList;
import java.util.List;
import java.util.Random;

/** Long runs of drawn calls (always the same ones), each answered by DrillCount and by Model. */
public final class ModelTest {

    private static final int NONE = -1;
    private static final int RUNS = 3000;
    private static final int[] WILD = {
        -1, -2, 0, 1, 2, 3, 5, 6, 8, 9, 10, 12, 13, 39, 40, 41, 63, 64, 65, 99, 100, -999, 999,
        -1000, 1000, Integer.MIN_VALUE, Integer.MAX_VALUE, Integer.MIN_VALUE + 1,
    };

    /** Each method with how often it is drawn and what its arguments are. */
    private static final String[] TABLE = {
        "axis 1 kind", "category 5 tree below", "move 6 category below", "document 3 score",
        "tag 12 document category on", "number 6 document nums number", "unnumber 2 document nums",
        "remove 1 document", "select 7 category on", "range 4 nums low high", "drop 3 nums r",
        "missing 1 axis on", "open 6 axis", "back 6",
        "of 5 category what5", "doc 5 document what5", "has 4 document category",
        "numberOf 3 document nums", "hit 4 i", "near 4 axis", "shown 6 category",
        "shownMissing 4 axis", "click 8 category what3", "lift 3 axis axis", "sums 6 category what2",
        "sets 4 tree what2", "bin 8 nums k i what3", "bins 4 nums k", "even 5 nums k",
        "top 6 tree cut i", "read 6 tree k", "path 5 tree i", "split 3", "cover 8 tree i",
        "both 3 category category", "alike 3 document document", "nearest 3 document", "miss 3 n",
        "most 3", "middle 5 nums what2", "count 6 what9",
    };

    private final Random random;
    private final DrillCount asked = new DrillCount();
    private final Model model = new Model();
    /** One argument in so many is drawn from WILD. */
    private final int wildEvery;
    private final int scores;
    private final int numbers;
    private int lastAxis = NONE;
    private final StringBuilder told = new StringBuilder();

    private ModelTest(int run) {
        random = new Random(7919L * run + 11);
        wildEvery = run % 3 == 0 ? 8 : 60;
        scores = 1 + random.nextInt(run % 2 == 0 ? 6 : 100);
        numbers = 1 + random.nextInt(run % 2 == 0 ? 8 : 999);
    }

    public static void main(String[] args) {
        Check check = new Check();
        List<String[]> drawn = new ArrayList<>();
        for (String line : TABLE) {
            String[] row = line.split(" ");
            if (Script.find(DrillCount.class, row[0]).getParameterCount() != row.length - 2) {
                throw new IllegalStateException("the table is wrong at " + row[0]);
            }
            for (int i = 0; i < Integer.parseInt(row[1]); i++) {
                drawn.add(row);
            }
        }
        for (int run = 0; run < RUNS; run++) {
            ModelTest test = new ModelTest(run);
            test.prepare();
            for (int call = test.prepared; call < Script.MOST_CALLS; call++) {
                if (!test.same(check, run, drawn.get(test.random.nextInt(drawn.size())))) {
                    break;
                }
            }
        }
        check.end("ModelTest");
    }

    private int prepared;

    /** Most runs start with a full collection, so that the questions have something to answer. */
    private void prepare() {
        if (random.nextInt(8) == 0) {
            return;
        }
        int axes = 1 + random.nextInt(5);
        for (int a = 0; a < axes; a++) {
            int kind = random.nextInt(3);
            asked.axis(kind);
            model.axis(kind);
        }
        int categories = random.nextInt(random.nextBoolean() ? 41 : 14);
        for (int c = 0; c < categories; c++) {
            int axis = (Integer) draw("tree");
            int below = (Integer) draw("below");
            asked.category(axis, below);
            model.category(axis, below);
        }
        int documents = random.nextInt(41);
        int tagged = random.nextInt(5);
        prepared = axes + categories + documents;
        for (int d = 0; d < documents; d++) {
            int score = random.nextInt(scores);
            asked.document(score);
            model.document(score);
            prepareOne(d, random.nextInt(tagged + 1));
        }
    }

    private void prepareOne(int document, int tags) {
        for (int t = 0; t < tags; t++) {
            int category = (Integer) draw("category");
            asked.tag(document, category, true);
            model.tag(document, category, true);
        }
        for (int t = 0; t < 2; t++) {
            int axis = (Integer) draw("nums");
            int number = (Integer) draw("number");
            asked.number(document, axis, number);
            model.number(document, axis, number);
        }
        prepared += tags + 2;
    }

    private boolean same(Check check, int run, String[] row) {
        Object[] args = new Object[row.length - 2];
        for (int i = 0; i < args.length; i++) {
            args[i] = draw(row[i + 2]);
        }
        Script.Call call = new Script.Call(row[0], args);
        String got = call.on(asked);
        String due = call.on(model);
        boolean right = got.equals(due);
        told.append(call).append(" = ").append(due).append('\n');
        check.note(right, "run " + run + ", " + call + " answered " + got + ", due is " + due);
        if (!right && Boolean.getBoolean("whole")) {
            System.out.println(told);
        }
        return right;
    }

    private Object draw(String what) {
        if (what.equals("on")) {
            return random.nextInt(4) > 0;
        }
        if (random.nextInt(wildEvery) == 0) {
            return WILD[random.nextInt(WILD.length)];
        }
        switch (what) {
            case "kind": return random.nextInt(3);
            case "axis": return random.nextInt(Math.max(1, model.count(0)));
            case "tree": return axisOf(true);
            case "nums": return axisOf(false);
            case "category": return categoryNear(NONE);
            case "below": return random.nextInt(4) == 0 ? NONE : categoryNear(lastAxis);
            case "document": return random.nextInt(Math.max(1, model.count(2)));
            case "score": return random.nextInt(scores);
            case "number": return random.nextInt(2 * numbers) - numbers;
            case "low": return random.nextInt(2 * numbers) - numbers - 3;
            case "high": return random.nextInt(2 * numbers) - numbers + 3;
            case "r": return random.nextInt(3);
            case "i": return random.nextInt(random.nextInt(3) == 0 ? 12 : 3) - random.nextInt(2);
            case "k": return 1 + random.nextInt(random.nextInt(2) == 0 ? 9 : 3);
            case "cut": return random.nextInt(random.nextInt(2) == 0 ? 10 : 3);
            case "n": return random.nextInt(6);
            default: return random.nextInt(what.charAt(4) - '0');
        }
    }

    /** An axis that is a tree, or that is not, if one of some tries meets such a one. */
    private int axisOf(boolean tree) {
        int axis = 0;
        for (int tries = 0; tries < 6; tries++) {
            axis = random.nextInt(Math.max(1, model.count(0)));
            if (tree == (model.bins(axis, 1) == NONE)) {
                break;
            }
        }
        lastAxis = axis;
        return axis;
    }

    /** A category, of this axis (NONE: of any) if one of some tries meets such a one. */
    private int categoryNear(int axis) {
        int category = 0;
        for (int tries = 0; tries < 6; tries++) {
            category = random.nextInt(Math.max(1, model.count(1)));
            if (axis == NONE || model.of(category, 0) == axis) {
                break;
            }
        }
        lastAxis = model.of(category, 0);
        return category;
    }
}
