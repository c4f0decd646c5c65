import java.util.NoSuchElementException;

/**
 * Category counter for drilled-down search: documents that stand in trees of categories and have
 * numbers, on up to five axes, what is selected on each axis, and what can be told of both.
 *
 * <p>The words in capitals are those of the document. Every set of documents and every set of
 * categories is a long, a bit for each number, since there are never more than 40 of either.
 */
public final class DrillCount {

    public static final int NONE = -1;

    private static final int ANY = 0;
    private static final int ALL = 1;
    private static final int NUMBER = 2;

    private static final int MOST_AXES = 5;
    private static final int MOST_CATEGORIES = 40;
    private static final int MOST_DOCUMENTS = 40;
    private static final int MOST_RANGES = 3;
    private static final int MOST_STEPS_BACK = 16;
    private static final int MOST_BINS = 8;
    private static final int MOST_CERTAIN = 9;
    private static final int MOST_COVERING = 12;
    private static final int GREATEST_LEVEL = 5;
    private static final int GREATEST_SCORE = 99;
    private static final int GREATEST_NUMBER = 999;
    private static final int GREATEST_CUT = 40;

    private final Forest forest;
    private final Shelf shelf;
    private final Sieve sieve;
    private final Trail trail;

    /** Work space that each question fills anew, so that no call has to make objects. */
    private final Ranking ranking;
    private final Row row;
    private final Selection trial;
    private final Covering covering;

    public DrillCount() {
        forest = new Forest();
        shelf = new Shelf();
        sieve = new Sieve(forest, shelf);
        trail = new Trail();
        ranking = new Ranking(MOST_CATEGORIES);
        row = new Row(MOST_DOCUMENTS);
        trial = new Selection();
        covering = new Covering();
    }

    // ---- what there is

    public int axis(int kind) {
        if (kind < ANY || kind > NUMBER || sieve.size >= MOST_AXES) {
            return NONE;
        }
        return sieve.addAxis(kind);
    }

    public int category(int axis, int below) {
        if (!sieve.isTree(axis) || forest.size >= MOST_CATEGORIES || !canStandBelow(axis, below)) {
            return NONE;
        }
        if (forest.levelBelow(below) > GREATEST_LEVEL) {
            return NONE;
        }
        return forest.grow(axis, below);
    }

    public boolean move(int category, int below) {
        if (!forest.knows(category) || !canStandBelow(forest.axisOf[category], below)) {
            return false;
        }
        if (below == category || below != NONE && inSet(forest.under[category], below)) {
            return false;
        }
        if (forest.levelBelow(below) + forest.height(category) > GREATEST_LEVEL) {
            return false;
        }
        forest.hang(category, below);
        sieve.renew();
        return true;
    }

    public int document(int score) {
        if (score < 0 || score > GREATEST_SCORE || shelf.size >= MOST_DOCUMENTS) {
            return NONE;
        }
        int made = shelf.lay(score);
        sieve.renew();
        return made;
    }

    public boolean tag(int document, int category, boolean on) {
        if (!shelf.isThere(document) || !forest.knows(category)) {
            return false;
        }
        if (inSet(forest.tagged[category], document) == on) {
            return false;
        }
        forest.turnTag(category, document);
        sieve.renew();
        return true;
    }

    public boolean number(int document, int axis, int number) {
        if (!shelf.isThere(document) || !sieve.isNumeric(axis)) {
            return false;
        }
        if (number < -GREATEST_NUMBER || number > GREATEST_NUMBER) {
            return false;
        }
        sieve.axes[axis].numbers[document] = number;
        sieve.axes[axis].numbered |= bit(document);
        sieve.renew();
        return true;
    }

    public boolean unnumber(int document, int axis) {
        if (!hasNumber(document, axis)) {
            return false;
        }
        sieve.axes[axis].numbered &= ~bit(document);
        sieve.renew();
        return true;
    }

    public boolean remove(int document) {
        if (!shelf.isThere(document)) {
            return false;
        }
        shelf.discard(document);
        sieve.renew();
        return true;
    }

    // ---- what is selected

    public boolean select(int category, boolean on) {
        if (!forest.knows(category)) {
            return false;
        }
        int axis = forest.axisOf[category];
        Selection chosen = sieve.axes[axis].chosen;
        if (inSet(chosen.categories, category) == on) {
            return false;
        }
        trail.note(axis, chosen);
        chosen.categories ^= bit(category);
        sieve.renew();
        return true;
    }

    public int range(int axis, int low, int high) {
        if (!sieve.isNumeric(axis) || low > high) {
            return NONE;
        }
        Selection chosen = sieve.axes[axis].chosen;
        if (chosen.ranges >= MOST_RANGES) {
            return NONE;
        }
        trail.note(axis, chosen);
        chosen.addRange(low, high);
        sieve.renew();
        return chosen.ranges - 1;
    }

    public boolean drop(int axis, int i) {
        if (!sieve.isNumeric(axis)) {
            return false;
        }
        Selection chosen = sieve.axes[axis].chosen;
        if (i < 0 || i >= chosen.ranges) {
            return false;
        }
        trail.note(axis, chosen);
        chosen.dropRange(i);
        sieve.renew();
        return true;
    }

    public boolean missing(int axis, boolean on) {
        if (!sieve.knows(axis)) {
            return false;
        }
        Selection chosen = sieve.axes[axis].chosen;
        if (chosen.absent == on) {
            return false;
        }
        trail.note(axis, chosen);
        chosen.absent = on;
        sieve.renew();
        return true;
    }

    public boolean open(int axis) {
        if (!sieve.knows(axis)) {
            return false;
        }
        Selection chosen = sieve.axes[axis].chosen;
        if (chosen.isOpen()) {
            return false;
        }
        trail.note(axis, chosen);
        chosen.clear();
        sieve.renew();
        return true;
    }

    public boolean back() {
        if (trail.size == 0) {
            return false;
        }
        trail.takeBack(sieve.axes);
        sieve.renew();
        return true;
    }

    // ---- single things

    public int of(int category, int what) {
        if (!forest.knows(category)) {
            return NONE;
        }
        int axis = forest.axisOf[category];
        switch (what) {
            case 0:
                return axis;
            case 1:
                return forest.above[category];
            case 2:
                return forest.level(category);
            case 3:
                return inSet(sieve.axes[axis].chosen.categories, category) ? 1 : 0;
            case 4:
                return Long.bitCount(forest.under[category]);
            default:
                return NONE;
        }
    }

    public int doc(int document, int what) {
        if (!shelf.knows(document)) {
            return NONE;
        }
        boolean there = shelf.isThere(document);
        switch (what) {
            case 0:
                return shelf.order.points[document];
            case 1:
                return there ? 1 : 0;
            case 2:
                return inSet(sieve.hits(), document) ? 1 : 0;
            case 3:
                return there ? sieve.passedBy(document) : NONE;
            case 4:
                return shelf.order.placeOf(document);
            default:
                return NONE;
        }
    }

    public boolean has(int document, int category) {
        return shelf.isThere(document) && forest.knows(category)
                && inSet(forest.having[category], document);
    }

    public int numberOf(int document, int axis) throws NoSuchElementException {
        if (!hasNumber(document, axis)) {
            throw new NoSuchElementException("no number");
        }
        return sieve.axes[axis].numbers[document];
    }

    public int hit(int i) {
        if (i < 0) {
            return NONE;
        }
        long hits = sieve.hits();
        int ahead = 0;
        for (int place = 0; place < shelf.order.size; place++) {
            int document = shelf.order.who[place];
            if (inSet(hits, document)) {
                if (ahead == i) {
                    return document;
                }
                ahead++;
            }
        }
        return NONE;
    }

    // ---- how many

    public int near(int axis) {
        return sieve.knows(axis) ? Long.bitCount(sieve.lifted(axis, axis)) : NONE;
    }

    public int shown(int category) {
        return forest.knows(category) ? sieve.showing(category) : NONE;
    }

    public int shownMissing(int axis) {
        if (!sieve.knows(axis)) {
            return NONE;
        }
        return Long.bitCount(sieve.audience(axis) & sieve.absentOn(axis));
    }

    public int click(int category, int what) {
        if (!forest.knows(category) || what < 0 || what > 2) {
            return NONE;
        }
        int axis = forest.axisOf[category];
        trial.copy(sieve.axes[axis].chosen);
        if (what == 0 && sieve.axes[axis].kind == ANY) {
            trial.clear();
        }
        if (what == 2) {
            trial.categories &= ~bit(category);
        } else {
            trial.categories |= bit(category);
        }
        return Long.bitCount(sieve.lifted(axis, axis) & sieve.sift(axis, trial));
    }

    public int lift(int one, int other) {
        if (!sieve.knows(one) || !sieve.knows(other)) {
            return NONE;
        }
        return Long.bitCount(sieve.lifted(one, other));
    }

    public int sums(int category, int what) {
        if (!forest.knows(category) || what < 0 || what > 1) {
            return NONE;
        }
        long counted = sieve.audience(forest.axisOf[category]);
        int own = Long.bitCount(counted & forest.tagged[category]);
        if (what == 0) {
            return own;
        }
        int together = own;
        for (int c = 0; c < forest.size; c++) {
            if (forest.above[c] == category) {
                together += Long.bitCount(counted & forest.having[c]);
            }
        }
        return together - Long.bitCount(counted & forest.having[category]);
    }

    public long sets(int axis, int what) {
        if (!sieve.isTree(axis) || what < 0 || what > 1) {
            return 0;
        }
        long counted = sieve.audience(axis);
        long found = 0;
        for (int c = 0; c < forest.size; c++) {
            if (forest.axisOf[c] != axis) {
                continue;
            }
            long lacking = what == 0 ? counted & forest.having[c] : forest.under[c];
            if (lacking == 0) {
                found |= bit(c);
            }
        }
        return found;
    }

    // ---- numbers

    public int bin(int axis, int k, int i, int what) throws NoSuchElementException {
        if (!canBin(axis, k) || i < 0 || what < 0 || what > 2) {
            throw new NoSuchElementException("no such bin");
        }
        fillRow(axis, sieve.lifted(axis, axis));
        int from = row.startOfBin(k, i);
        if (from >= row.size) {
            throw new NoSuchElementException("no such bin");
        }
        int end = row.endOfBin(from, k - i);
        if (what == 2) {
            return end - from;
        }
        return what == 0 ? row.values[from] : row.values[end - 1];
    }

    public int bins(int axis, int k) {
        if (!canBin(axis, k)) {
            return NONE;
        }
        fillRow(axis, sieve.lifted(axis, axis));
        return row.howManyBins(k);
    }

    public int even(int axis, int k) {
        if (!canBin(axis, k)) {
            return NONE;
        }
        fillRow(axis, sieve.lifted(axis, axis));
        return row.flattest(k);
    }

    public int middle(int axis, int what) throws NoSuchElementException {
        if (!sieve.isNumeric(axis) || what < 0 || what > 1) {
            throw new NoSuchElementException("no such figure");
        }
        fillRow(axis, sieve.hits());
        if (row.size == 0) {
            throw new NoSuchElementException("no hit has a number there");
        }
        if (what == 0) {
            return row.values[(row.size - 1) / 2];
        }
        return row.values[row.size - 1] - row.values[0];
    }

    // ---- categories against each other

    public int top(int axis, int cut, int i) {
        if (!sieve.isTree(axis) || cut < 0 || cut > GREATEST_CUT || i < 0) {
            return NONE;
        }
        long counted = sieve.audience(axis);
        ranking.clear();
        for (int c = 0; c < forest.size; c++) {
            int showing = Long.bitCount(counted & forest.having[c]);
            if (forest.axisOf[c] == axis && showing > cut) {
                ranking.put(c, showing);
            }
        }
        return i < ranking.size ? ranking.who[i] : NONE;
    }

    public int read(int axis, int k) {
        if (!sieve.isTree(axis) || k < 1 || k > MOST_CERTAIN) {
            return NONE;
        }
        startReading(axis);
        long counted = sieve.audience(axis);
        int all = shelf.order.size;
        for (int done = 0; done < all; done++) {
            if (ranking.isCertain(k, all - done)) {
                return done;
            }
            int document = shelf.order.who[done];
            if (inSet(counted, document)) {
                readOne(document);
            }
        }
        return all;
    }

    public int path(int axis, int i) {
        if (!sieve.isTree(axis) || i < 0 || i > GREATEST_LEVEL) {
            return NONE;
        }
        long counted = sieve.audience(axis);
        int at = NONE;
        for (int step = 0; step <= i; step++) {
            at = fullestBelow(axis, at, counted);
            if (at == NONE) {
                return NONE;
            }
        }
        return at;
    }

    public int split() {
        int hits = Long.bitCount(sieve.hits());
        int best = NONE;
        int least = 0;
        for (int c = 0; c < forest.size; c++) {
            if (inSet(sieve.axes[forest.axisOf[c]].chosen.categories, c)) {
                continue;
            }
            int off = Math.abs(2 * sieve.showing(c) - hits);
            if (best == NONE || off < least) {
                least = off;
                best = c;
            }
        }
        return best;
    }

    public int cover(int axis, int i) {
        if (!sieve.isTree(axis) || i < NONE || !fillCovering(axis)) {
            return NONE;
        }
        int fewest = covering.solve(sieve.hits() & ~sieve.absentOn(axis));
        if (i == NONE) {
            return fewest;
        }
        return i < fewest ? covering.chosen[i] : NONE;
    }

    public int both(int one, int other) {
        if (!forest.knows(one) || !forest.knows(other)) {
            return NONE;
        }
        return Long.bitCount(sieve.hits() & forest.having[one] & forest.having[other]);
    }

    // ---- documents against each other

    public int alike(int one, int other) {
        if (one == other || !shelf.isThere(one) || !shelf.isThere(other)) {
            return NONE;
        }
        return forest.howManyHeldBy(bit(one) | bit(other));
    }

    public int nearest(int document) {
        if (!shelf.isThere(document)) {
            return NONE;
        }
        int best = NONE;
        int most = NONE;
        for (int place = 0; place < shelf.order.size; place++) {
            int other = shelf.order.who[place];
            if (other == document) {
                continue;
            }
            int shared = forest.howManyHeldBy(bit(document) | bit(other));
            if (shared > most) {
                most = shared;
                best = other;
            }
        }
        return best;
    }

    public int miss(int n) {
        if (n < 0 || n > MOST_AXES) {
            return NONE;
        }
        int found = 0;
        for (int place = 0; place < shelf.order.size; place++) {
            int passed = sieve.passedBy(shelf.order.who[place]);
            if (sieve.size - Integer.bitCount(passed) == n) {
                found++;
            }
        }
        return found;
    }

    public int most() {
        long hits = sieve.hits();
        int best = NONE;
        int greatest = NONE;
        for (int place = 0; place < shelf.order.size; place++) {
            int document = shelf.order.who[place];
            if (!inSet(hits, document)) {
                continue;
            }
            int held = forest.howManyHeldBy(bit(document));
            if (held > greatest) {
                greatest = held;
                best = document;
            }
        }
        return best;
    }

    public int count(int what) {
        switch (what) {
            case 0:
                return sieve.size;
            case 1:
                return forest.size;
            case 2:
                return shelf.size;
            case 3:
                return shelf.order.size;
            case 4:
                return Long.bitCount(sieve.hits());
            case 5:
                return sieve.howManyCategoriesChosen();
            case 6:
                return sieve.howManyRanges();
            case 7:
                return sieve.narrowed();
            case 8:
                return trail.size;
            default:
                return NONE;
        }
    }

    // ---- what the calls above share

    private static long bit(int number) {
        return 1L << number;
    }

    private static boolean inSet(long set, int number) {
        return (set >>> number & 1L) != 0;
    }

    private boolean canStandBelow(int axis, int below) {
        return below == NONE || forest.knows(below) && forest.axisOf[below] == axis;
    }

    private boolean hasNumber(int document, int axis) {
        return shelf.isThere(document) && sieve.isNumeric(axis)
                && inSet(sieve.axes[axis].numbered, document);
    }

    private boolean canBin(int axis, int k) {
        return sieve.isNumeric(axis) && k >= 1 && k <= MOST_BINS;
    }

    private void fillRow(int axis, long documents) {
        long asked = documents & sieve.axes[axis].numbered;
        row.clear();
        for (int d = 0; d < shelf.size; d++) {
            if (inSet(asked, d)) {
                row.put(sieve.axes[axis].numbers[d]);
            }
        }
    }

    private void startReading(int axis) {
        ranking.clear();
        for (int c = 0; c < forest.size; c++) {
            if (forest.axisOf[c] == axis) {
                ranking.put(c, 0);
            }
        }
    }

    private void readOne(int document) {
        for (int place = 0; place < ranking.size; place++) {
            int category = ranking.who[place];
            if (inSet(forest.having[category], document)) {
                ranking.points[category]++;
            }
        }
        ranking.settle();
    }

    /** Of those right below one (NONE: at the top) that with the most counted, if that is above 0. */
    private int fullestBelow(int axis, int above, long counted) {
        int best = NONE;
        int most = 0;
        for (int c = 0; c < forest.size; c++) {
            if (forest.axisOf[c] != axis || forest.above[c] != above) {
                continue;
            }
            int showing = Long.bitCount(counted & forest.having[c]);
            if (showing > most) {
                most = showing;
                best = c;
            }
        }
        return best;
    }

    /** False, if more categories of the axis may be taken for a COVER than the document allows. */
    private boolean fillCovering(int axis) {
        covering.clear();
        for (int c = 0; c < forest.size; c++) {
            if (forest.axisOf[c] != axis || forest.above[c] == NONE && forest.under[c] != 0) {
                continue;
            }
            if (covering.size >= MOST_COVERING) {
                return false;
            }
            covering.put(c, forest.having[c]);
        }
        return true;
    }

    /** The trees of all axes, and the documents that are tagged in them. */
    private static final class Forest {
        final int[] axisOf = new int[MOST_CATEGORIES];
        final int[] above = new int[MOST_CATEGORIES];
        /** Of each category all those BELOW it. */
        final long[] under = new long[MOST_CATEGORIES];
        final long[] tagged = new long[MOST_CATEGORIES];
        /** Of each category the documents that HAVE it; kept up, since most questions ask it. */
        final long[] having = new long[MOST_CATEGORIES];
        int size;

        boolean knows(int category) {
            return category >= 0 && category < size;
        }

        int grow(int axis, int below) {
            int made = size;
            size++;
            axisOf[made] = axis;
            above[made] = below;
            hangUnder(below, bit(made));
            return made;
        }

        void hang(int category, int below) {
            int old = above[category];
            long moved = under[category] | bit(category);
            int up = old;
            for (int step = 0; step <= GREATEST_LEVEL && knows(up); step++) {
                under[up] &= ~moved;
                up = above[up];
            }
            above[category] = below;
            hangUnder(below, moved);
            gather(old);
            gather(below);
        }

        private void hangUnder(int from, long more) {
            int up = from;
            for (int step = 0; step <= GREATEST_LEVEL && knows(up); step++) {
                under[up] |= more;
                up = above[up];
            }
        }

        void turnTag(int category, int document) {
            tagged[category] ^= bit(document);
            gather(category);
        }

        private void gather(int from) {
            int up = from;
            for (int step = 0; step <= GREATEST_LEVEL && knows(up); step++) {
                having[up] = taggedIn(under[up] | bit(up));
                up = above[up];
            }
        }

        private long taggedIn(long categories) {
            long found = 0;
            for (int c = 0; c < size; c++) {
                if (inSet(categories, c)) {
                    found |= tagged[c];
                }
            }
            return found;
        }

        long taggedOn(int axis) {
            long found = 0;
            for (int c = 0; c < size; c++) {
                if (axisOf[c] == axis) {
                    found |= tagged[c];
                }
            }
            return found;
        }

        int level(int category) {
            return levelBelow(above[category]);
        }

        /** The LEVEL of what stands right below one (NONE: at the top). */
        int levelBelow(int category) {
            int level = 0;
            int up = category;
            for (int step = 0; step <= GREATEST_LEVEL && knows(up); step++) {
                level++;
                up = above[up];
            }
            return level;
        }

        /** How many levels there are BELOW a category. */
        int height(int category) {
            int deepest = level(category);
            for (int c = 0; c < size; c++) {
                if (inSet(under[category], c)) {
                    deepest = Math.max(deepest, level(c));
                }
            }
            return deepest - level(category);
        }

        long havingAny(long categories) {
            long found = 0;
            for (int c = 0; c < size; c++) {
                if (inSet(categories, c)) {
                    found |= having[c];
                }
            }
            return found;
        }

        long havingAll(long categories) {
            long found = -1L;
            for (int c = 0; c < size; c++) {
                if (inSet(categories, c)) {
                    found &= having[c];
                }
            }
            return found;
        }

        /** How many categories every one of these documents HAS. */
        int howManyHeldBy(long documents) {
            int held = 0;
            for (int c = 0; c < size; c++) {
                if ((having[c] & documents) == documents) {
                    held++;
                }
            }
            return held;
        }
    }

    /** The documents that have been, and those that are THERE, in ORDER. */
    private static final class Shelf {
        final Ranking order = new Ranking(MOST_DOCUMENTS);
        long there;
        int size;

        boolean knows(int document) {
            return document >= 0 && document < size;
        }

        boolean isThere(int document) {
            return knows(document) && inSet(there, document);
        }

        int lay(int score) {
            int made = size;
            size++;
            there |= bit(made);
            order.put(made, score);
            return made;
        }

        void discard(int document) {
            there &= ~bit(document);
            order.take(document);
        }
    }

    /** What is SELECTED on one axis. */
    private static final class Selection {
        long categories;
        boolean absent;
        int ranges;
        final int[] lows = new int[MOST_RANGES];
        final int[] highs = new int[MOST_RANGES];

        boolean isOpen() {
            return categories == 0 && !absent && ranges == 0;
        }

        void clear() {
            categories = 0;
            absent = false;
            ranges = 0;
        }

        void copy(Selection from) {
            categories = from.categories;
            absent = from.absent;
            ranges = from.ranges;
            for (int i = 0; i < MOST_RANGES; i++) {
                lows[i] = from.lows[i];
                highs[i] = from.highs[i];
            }
        }

        void addRange(int low, int high) {
            if (ranges < MOST_RANGES) {
                lows[ranges] = low;
                highs[ranges] = high;
                ranges++;
            }
        }

        void dropRange(int dropped) {
            for (int i = dropped; i + 1 < ranges; i++) {
                lows[i] = lows[i + 1];
                highs[i] = highs[i + 1];
            }
            ranges--;
        }

        boolean takesNumber(int number) {
            for (int i = 0; i < ranges; i++) {
                if (lows[i] <= number && number <= highs[i]) {
                    return true;
                }
            }
            return false;
        }
    }

    private static final class Axis {
        int kind = NONE;
        final Selection chosen = new Selection();
        final int[] numbers = new int[MOST_DOCUMENTS];
        long numbered;
    }

    /** What was SELECTED ahead of each of the last steps; a step changes one axis only. */
    private static final class Trail {
        final int[] axisOf = new int[MOST_STEPS_BACK];
        final Selection[] before = new Selection[MOST_STEPS_BACK];
        int next;
        int size;

        Trail() {
            for (int i = 0; i < MOST_STEPS_BACK; i++) {
                before[i] = new Selection();
            }
        }

        void note(int axis, Selection chosen) {
            axisOf[next] = axis;
            before[next].copy(chosen);
            next = (next + 1) % MOST_STEPS_BACK;
            size = Math.min(size + 1, MOST_STEPS_BACK);
        }

        void takeBack(Axis[] axes) {
            next = (next + MOST_STEPS_BACK - 1) % MOST_STEPS_BACK;
            size--;
            axes[axisOf[next]].chosen.copy(before[next]);
        }
    }

    /** The axes, and which documents get through them. */
    private static final class Sieve {
        final Forest forest;
        final Shelf shelf;
        final Axis[] axes = new Axis[MOST_AXES];
        /** Of each axis the documents that PASS it; renewed after every change. */
        final long[] passing = new long[MOST_AXES];
        int size;

        Sieve(Forest forest, Shelf shelf) {
            this.forest = forest;
            this.shelf = shelf;
            for (int a = 0; a < MOST_AXES; a++) {
                axes[a] = new Axis();
            }
        }

        boolean knows(int axis) {
            return axis >= 0 && axis < size;
        }

        boolean isNumeric(int axis) {
            return knows(axis) && axes[axis].kind == NUMBER;
        }

        boolean isTree(int axis) {
            return knows(axis) && axes[axis].kind != NUMBER;
        }

        int addAxis(int kind) {
            int made = size;
            size++;
            axes[made].kind = kind;
            renew();
            return made;
        }

        void renew() {
            for (int a = 0; a < size; a++) {
                passing[a] = sift(a, axes[a].chosen);
            }
        }

        /** The documents that PASS an axis, were this SELECTED on it. */
        long sift(int axis, Selection chosen) {
            if (chosen.isOpen()) {
                return shelf.there;
            }
            long absent = absentOn(axis);
            if (axes[axis].kind == ALL) {
                long found = shelf.there & forest.havingAll(chosen.categories);
                return chosen.absent ? found & absent : found;
            }
            long found = axes[axis].kind == NUMBER
                    ? inRanges(axes[axis], chosen)
                    : forest.havingAny(chosen.categories);
            return shelf.there & (chosen.absent ? found | absent : found);
        }

        private long inRanges(Axis axis, Selection chosen) {
            long found = 0;
            for (int d = 0; d < shelf.size; d++) {
                if (inSet(axis.numbered, d) && chosen.takesNumber(axis.numbers[d])) {
                    found |= bit(d);
                }
            }
            return found;
        }

        /** The documents that are MISSING on an axis. */
        long absentOn(int axis) {
            boolean numeric = axes[axis].kind == NUMBER;
            return shelf.there & ~(numeric ? axes[axis].numbered : forest.taggedOn(axis));
        }

        long hits() {
            return lifted(NONE, NONE);
        }

        /** The documents that PASS all axes but these two, which may be the same. */
        long lifted(int one, int other) {
            long found = shelf.there;
            for (int a = 0; a < size; a++) {
                if (a != one && a != other) {
                    found &= passing[a];
                }
            }
            return found;
        }

        /** The documents of which SHOWN counts those that HAVE a category of the axis. */
        long audience(int axis) {
            return axes[axis].kind == ALL ? hits() : lifted(axis, axis);
        }

        int showing(int category) {
            return Long.bitCount(audience(forest.axisOf[category]) & forest.having[category]);
        }

        /** The axes that a document PASSES, as bits. */
        int passedBy(int document) {
            int passed = 0;
            for (int a = 0; a < size; a++) {
                if (inSet(passing[a], document)) {
                    passed |= 1 << a;
                }
            }
            return passed;
        }

        int howManyCategoriesChosen() {
            int found = 0;
            for (int a = 0; a < size; a++) {
                found += Long.bitCount(axes[a].chosen.categories);
            }
            return found;
        }

        int howManyRanges() {
            int found = 0;
            for (int a = 0; a < size; a++) {
                found += axes[a].chosen.ranges;
            }
            return found;
        }

        /** The axes that are not OPEN, as bits. */
        int narrowed() {
            int found = 0;
            for (int a = 0; a < size; a++) {
                if (!axes[a].chosen.isOpen()) {
                    found |= 1 << a;
                }
            }
            return found;
        }
    }

    /** Numbered things by their points, downwards, of equal ones by their numbers. */
    private static final class Ranking {
        final int[] who;
        final int[] points;
        int size;

        Ranking(int most) {
            who = new int[most];
            points = new int[most];
        }

        void clear() {
            size = 0;
        }

        void put(int number, int worth) {
            if (size < who.length) {
                points[number] = worth;
                who[size] = number;
                size++;
                rise(size - 1);
            }
        }

        void take(int number) {
            int place = placeOf(number);
            if (place == NONE) {
                return;
            }
            size--;
            for (int i = place; i < size; i++) {
                who[i] = who[i + 1];
            }
        }

        int placeOf(int number) {
            for (int i = 0; i < size; i++) {
                if (who[i] == number) {
                    return i;
                }
            }
            return NONE;
        }

        /** Puts all in their places again after points have changed. */
        void settle() {
            for (int i = 1; i < size; i++) {
                rise(i);
            }
        }

        private void rise(int from) {
            int number = who[from];
            int place = from;
            while (place > 0 && isAhead(number, who[place - 1])) {
                who[place] = who[place - 1];
                place--;
            }
            who[place] = number;
        }

        private boolean isAhead(int one, int other) {
            return points[one] > points[other] || points[one] == points[other] && one < other;
        }

        /**
         * Whether the first k stay the first k, whatever the unread ones add. It is enough to ask
         * the last of them and the first behind: all others are further apart.
         */
        boolean isCertain(int k, int unread) {
            if (k < 1 || size <= k) {
                return true;
            }
            int last = who[k - 1];
            int behind = who[k];
            int ahead = points[last] - points[behind] - unread;
            return ahead > 0 || ahead == 0 && last < behind;
        }
    }

    /** Numbers, upwards. */
    private static final class Row {
        final int[] values;
        int size;

        Row(int most) {
            values = new int[most];
        }

        void clear() {
            size = 0;
        }

        void put(int value) {
            if (size >= values.length) {
                return;
            }
            int place = size;
            while (place > 0 && values[place - 1] > value) {
                values[place] = values[place - 1];
                place--;
            }
            values[place] = value;
            size++;
        }

        /** Where the i-th of k BINS starts; at the size, if there is none such. */
        int startOfBin(int k, int i) {
            int from = 0;
            for (int b = 0; b < k && b < i; b++) {
                from = endOfBin(from, k - b);
            }
            return from;
        }

        int howManyBins(int k) {
            int made = 0;
            int from = 0;
            while (made < k && from < size) {
                from = endOfBin(from, k - made);
                made++;
            }
            return made;
        }

        int endOfBin(int from, int binsLeft) {
            if (binsLeft <= 1) {
                return size;
            }
            int wanted = (size - from + binsLeft - 1) / binsLeft;
            int end = Math.min(from + wanted, size);
            while (end > 0 && end < size && values[end] == values[end - 1]) {
                end++;
            }
            return end;
        }

        /** The fewest that the longest may have, if equal values stay in one of k rows. */
        int flattest(int k) {
            int longest = 0;
            while (longest < size && !fits(k, longest)) {
                longest++;
            }
            return longest;
        }

        private boolean fits(int k, int longest) {
            int from = 0;
            for (int r = 0; r < k; r++) {
                from = endOfRow(from, longest);
            }
            return from >= size;
        }

        private int endOfRow(int from, int longest) {
            int end = Math.min(from + longest, size);
            while (end > from && end < size && values[end] == values[end - 1]) {
                end--;
            }
            return end;
        }
    }

    /** The search for a COVER: the fewest of some categories that reach all needed documents. */
    private static final class Covering {
        final int[] numbers = new int[MOST_COVERING];
        final long[] having = new long[MOST_COVERING];
        /** What each category and all behind it reach together. */
        final long[] reach = new long[MOST_COVERING + 1];
        final int[] chosen = new int[MOST_COVERING];
        int size;

        void clear() {
            size = 0;
        }

        void put(int category, long documents) {
            if (size < MOST_COVERING) {
                numbers[size] = category;
                having[size] = documents;
                size++;
            }
        }

        /** How many there are in the COVER; NONE: there is none. */
        int solve(long needed) {
            reach[size] = 0;
            for (int i = size - 1; i >= 0; i--) {
                reach[i] = reach[i + 1] | having[i];
            }
            for (int many = 0; many <= size; many++) {
                if (choose(0, 0, many, needed)) {
                    return many;
                }
            }
            return NONE;
        }

        /** Tries rows in the order of their numbers, so the first that is found is the first. */
        private boolean choose(int from, int place, int many, long needed) {
            if (place >= many) {
                return needed == 0;
            }
            for (int i = from; i < size; i++) {
                if ((needed & ~reach[i]) != 0) {
                    return false;
                }
                chosen[place] = numbers[i];
                if (choose(i + 1, place + 1, many, needed & ~having[i])) {
                    return true;
                }
            }
            return false;
        }
    }
}
