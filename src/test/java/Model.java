import java.util.ArrayList;
import java.util.List;
import java.util.NoSuchElementException;
import java.util.TreeMap;
import java.util.TreeSet;

/**
 * The document once more, as slow and as near to its words as can be, for ModelTest. It shares no
 * idea with DrillCount: sets instead of bits, whole copies instead of steps, all ways tried instead
 * of a clever one.
 */
public final class Model {

    private static final int NONE = -1;

    private static final class Doc {
        int number;
        int score;
        boolean there = true;
        final TreeSet<Integer> tags = new TreeSet<>();
        final TreeMap<Integer, Integer> numbers = new TreeMap<>();
    }

    private static final class Chosen {
        TreeSet<Integer> categories = new TreeSet<>();
        List<int[]> ranges = new ArrayList<>();
        boolean missing;

        Chosen copy() {
            Chosen c = new Chosen();
            c.categories.addAll(categories);
            c.ranges.addAll(ranges);
            c.missing = missing;
            return c;
        }

        boolean open() {
            return categories.isEmpty() && ranges.isEmpty() && !missing;
        }
    }

    private final List<Integer> kinds = new ArrayList<>();
    private final List<Integer> axisOf = new ArrayList<>();
    private final List<Integer> parent = new ArrayList<>();
    private final List<Doc> docs = new ArrayList<>();
    private List<Chosen> chosen = new ArrayList<>();
    private final List<List<Chosen>> past = new ArrayList<>();

    public int axis(int kind) {
        if (kind < 0 || kind > 2 || kinds.size() == 5) {
            return NONE;
        }
        kinds.add(kind);
        chosen.add(new Chosen());
        for (List<Chosen> p : past) {
            p.add(new Chosen());
        }
        return kinds.size() - 1;
    }

    private boolean isAxis(int a) {
        return a >= 0 && a < kinds.size();
    }

    private boolean tree(int a) {
        return isAxis(a) && kinds.get(a) < 2;
    }

    private boolean numeric(int a) {
        return isAxis(a) && kinds.get(a) == 2;
    }

    private boolean isCat(int c) {
        return c >= 0 && c < parent.size();
    }

    private boolean isDoc(int d) {
        return d >= 0 && d < docs.size();
    }

    private boolean there(int d) {
        return isDoc(d) && docs.get(d).there;
    }

    private int levelOf(int c) {
        return parent.get(c) == NONE ? 0 : 1 + levelOf(parent.get(c));
    }

    /** Whether c is BELOW above. */
    private boolean isBelow(int c, int above) {
        int p = parent.get(c);
        return p != NONE && (p == above || isBelow(p, above));
    }

    public int category(int axis, int below) {
        if (!tree(axis) || parent.size() == 40) {
            return NONE;
        }
        if (below != NONE) {
            if (!isCat(below) || axisOf.get(below) != axis || levelOf(below) == 5) {
                return NONE;
            }
        }
        axisOf.add(axis);
        parent.add(below);
        return parent.size() - 1;
    }

    public boolean move(int category, int below) {
        if (!isCat(category)) {
            return false;
        }
        if (below != NONE) {
            if (!isCat(below) || !axisOf.get(below).equals(axisOf.get(category))) {
                return false;
            }
            if (below == category || isBelow(below, category)) {
                return false;
            }
        }
        int old = parent.get(category);
        parent.set(category, below);
        for (int c = 0; c < parent.size(); c++) {
            if (levelOf(c) > 5) {
                parent.set(category, old);
                return false;
            }
        }
        return true;
    }

    public int document(int score) {
        if (score < 0 || score > 99 || docs.size() == 40) {
            return NONE;
        }
        Doc d = new Doc();
        d.score = score;
        d.number = docs.size();
        docs.add(d);
        return d.number;
    }

    public boolean tag(int document, int category, boolean on) {
        if (!there(document) || !isCat(category)) {
            return false;
        }
        return on ? docs.get(document).tags.add(category) : docs.get(document).tags.remove(category);
    }

    public boolean number(int document, int axis, int number) {
        if (!there(document) || !numeric(axis) || number < -999 || number > 999) {
            return false;
        }
        docs.get(document).numbers.put(axis, number);
        return true;
    }

    public boolean unnumber(int document, int axis) {
        return there(document) && numeric(axis) && docs.get(document).numbers.remove(axis) != null;
    }

    public boolean remove(int document) {
        if (!there(document)) {
            return false;
        }
        docs.get(document).there = false;
        return true;
    }

    private List<Chosen> copyOfChosen() {
        List<Chosen> all = new ArrayList<>();
        for (Chosen c : chosen) {
            all.add(c.copy());
        }
        return all;
    }

    private void keep(List<Chosen> before) {
        past.add(before);
        if (past.size() > 16) {
            past.remove(0);
        }
    }

    public boolean select(int category, boolean on) {
        if (!isCat(category)) {
            return false;
        }
        List<Chosen> before = copyOfChosen();
        TreeSet<Integer> set = chosen.get(axisOf.get(category)).categories;
        boolean changed = on ? set.add(category) : set.remove(category);
        if (changed) {
            keep(before);
        }
        return changed;
    }

    public int range(int axis, int low, int high) {
        if (!numeric(axis) || low > high || chosen.get(axis).ranges.size() == 3) {
            return NONE;
        }
        keep(copyOfChosen());
        chosen.get(axis).ranges.add(new int[] {low, high});
        return chosen.get(axis).ranges.size() - 1;
    }

    public boolean drop(int axis, int i) {
        if (!isAxis(axis) || i < 0 || i >= chosen.get(axis).ranges.size()) {
            return false;
        }
        keep(copyOfChosen());
        chosen.get(axis).ranges.remove(i);
        return true;
    }

    public boolean missing(int axis, boolean on) {
        if (!isAxis(axis) || chosen.get(axis).missing == on) {
            return false;
        }
        keep(copyOfChosen());
        chosen.get(axis).missing = on;
        return true;
    }

    public boolean open(int axis) {
        if (!isAxis(axis) || chosen.get(axis).open()) {
            return false;
        }
        keep(copyOfChosen());
        chosen.set(axis, new Chosen());
        return true;
    }

    public boolean back() {
        if (past.isEmpty()) {
            return false;
        }
        chosen = past.remove(past.size() - 1);
        return true;
    }

    public int of(int category, int what) {
        if (!isCat(category)) {
            return NONE;
        }
        switch (what) {
            case 0: return axisOf.get(category);
            case 1: return parent.get(category);
            case 2: return levelOf(category);
            case 3: return chosen.get(axisOf.get(category)).categories.contains(category) ? 1 : 0;
            case 4: {
                int n = 0;
                for (int c = 0; c < parent.size(); c++) {
                    n += isBelow(c, category) ? 1 : 0;
                }
                return n;
            }
            default: return NONE;
        }
    }

    private boolean hasCat(Doc d, int category) {
        for (int t : d.tags) {
            if (t == category || isBelow(t, category)) {
                return true;
            }
        }
        return false;
    }

    private boolean isMissing(Doc d, int axis) {
        for (int t : d.tags) {
            if (axisOf.get(t) == axis) {
                return false;
            }
        }
        return !d.numbers.containsKey(axis);
    }

    private boolean passes(Doc d, int axis) {
        Chosen s = chosen.get(axis);
        if (s.open()) {
            return true;
        }
        boolean missing = isMissing(d, axis);
        if (kinds.get(axis) == 1) {
            for (int c : s.categories) {
                if (!hasCat(d, c)) {
                    return false;
                }
            }
            return !s.missing || missing;
        }
        if (s.missing && missing) {
            return true;
        }
        for (int c : s.categories) {
            if (hasCat(d, c)) {
                return true;
            }
        }
        for (int[] r : s.ranges) {
            Integer n = d.numbers.get(axis);
            if (n != null && n >= r[0] && n <= r[1]) {
                return true;
            }
        }
        return false;
    }

    /** Those THERE in ORDER. */
    private List<Doc> order() {
        List<Doc> all = new ArrayList<>();
        for (Doc d : docs) {
            if (d.there) {
                all.add(d);
            }
        }
        all.sort((x, y) -> x.score != y.score ? y.score - x.score : x.number - y.number);
        return all;
    }

    private List<Doc> nearAll(int... lifted) {
        List<Doc> all = new ArrayList<>();
        for (Doc d : order()) {
            boolean in = true;
            for (int a = 0; a < kinds.size(); a++) {
                boolean free = false;
                for (int l : lifted) {
                    free |= l == a;
                }
                in &= free || passes(d, a);
            }
            if (in) {
                all.add(d);
            }
        }
        return all;
    }

    private List<Doc> hitList() {
        return nearAll();
    }

    public int doc(int document, int what) {
        if (!isDoc(document)) {
            return NONE;
        }
        Doc d = docs.get(document);
        switch (what) {
            case 0: return d.score;
            case 1: return d.there ? 1 : 0;
            case 2: return hitList().contains(d) ? 1 : 0;
            case 3: {
                int bits = 0;
                for (int a = 0; a < kinds.size(); a++) {
                    bits += passes(d, a) ? (int) Math.pow(2, a) : 0;
                }
                return d.there ? bits : NONE;
            }
            case 4: return order().indexOf(d);
            default: return NONE;
        }
    }

    public boolean has(int document, int category) {
        return there(document) && isCat(category) && hasCat(docs.get(document), category);
    }

    public int numberOf(int document, int axis) {
        if (!there(document) || !numeric(axis) || !docs.get(document).numbers.containsKey(axis)) {
            throw new NoSuchElementException();
        }
        return docs.get(document).numbers.get(axis);
    }

    public int hit(int i) {
        List<Doc> hits = hitList();
        return i >= 0 && i < hits.size() ? hits.get(i).number : NONE;
    }

    public int near(int axis) {
        return isAxis(axis) ? nearAll(axis).size() : NONE;
    }

    private List<Doc> counted(int axis) {
        return kinds.get(axis) == 1 ? hitList() : nearAll(axis);
    }

    private int howMany(List<Doc> of, int category) {
        int n = 0;
        for (Doc d : of) {
            n += hasCat(d, category) ? 1 : 0;
        }
        return n;
    }

    public int shown(int category) {
        return isCat(category) ? howMany(counted(axisOf.get(category)), category) : NONE;
    }

    public int shownMissing(int axis) {
        if (!isAxis(axis)) {
            return NONE;
        }
        int n = 0;
        for (Doc d : counted(axis)) {
            n += isMissing(d, axis) ? 1 : 0;
        }
        return n;
    }

    public int click(int category, int what) {
        if (!isCat(category) || what < 0 || what > 2) {
            return NONE;
        }
        List<Chosen> before = copyOfChosen();
        int axis = axisOf.get(category);
        if (what == 0 && kinds.get(axis) == 0) {
            chosen.set(axis, new Chosen());
        }
        if (what < 2) {
            chosen.get(axis).categories.add(category);
        } else {
            chosen.get(axis).categories.remove(category);
        }
        int n = hitList().size();
        chosen = before;
        return n;
    }

    public int lift(int one, int other) {
        return isAxis(one) && isAxis(other) ? nearAll(one, other).size() : NONE;
    }

    public int sums(int category, int what) {
        if (!isCat(category) || what < 0 || what > 1) {
            return NONE;
        }
        int own = 0;
        for (Doc d : counted(axisOf.get(category))) {
            own += hasCat(d, category) && d.tags.contains(category) ? 1 : 0;
        }
        if (what == 0) {
            return own;
        }
        int all = own;
        for (int c = 0; c < parent.size(); c++) {
            all += parent.get(c) == category ? shown(c) : 0;
        }
        return all - shown(category);
    }

    public long sets(int axis, int what) {
        long bits = 0;
        if (!tree(axis)) {
            return 0;
        }
        for (int c = 0; c < parent.size(); c++) {
            if (axisOf.get(c) == axis) {
                boolean in = what == 0 && shown(c) == 0 || what == 1 && !parent.contains(c);
                bits += in ? (long) Math.pow(2, c) : 0;
            }
        }
        return bits;
    }

    private List<Integer> sorted(List<Doc> of, int axis) {
        List<Integer> all = new ArrayList<>();
        for (Doc d : of) {
            if (d.numbers.containsKey(axis)) {
                all.add(d.numbers.get(axis));
            }
        }
        all.sort(null);
        return all;
    }

    private List<List<Integer>> allBins(int axis, int k) {
        List<Integer> left = sorted(nearAll(axis), axis);
        List<List<Integer>> made = new ArrayList<>();
        while (!left.isEmpty() && made.size() < k) {
            int due = (int) Math.ceil(left.size() / (double) (k - made.size()));
            List<Integer> bin = new ArrayList<>();
            while (bin.size() < due && !left.isEmpty()) {
                Integer n = left.get(0);
                while (left.contains(n)) {
                    left.remove(n);
                    bin.add(n);
                }
            }
            made.add(bin);
        }
        return made;
    }

    public int bin(int axis, int k, int i, int what) {
        if (!numeric(axis) || k < 1 || k > 8 || i < 0 || what < 0 || what > 2) {
            throw new NoSuchElementException();
        }
        List<List<Integer>> all = allBins(axis, k);
        if (i >= all.size()) {
            throw new NoSuchElementException();
        }
        List<Integer> bin = all.get(i);
        return what == 0 ? bin.get(0) : what == 1 ? bin.get(bin.size() - 1) : bin.size();
    }

    public int bins(int axis, int k) {
        return numeric(axis) && k >= 1 && k <= 8 ? allBins(axis, k).size() : NONE;
    }

    /** The least that the longest row has, over all ends of the first row. */
    private int leastLongest(List<Integer> of, int k, TreeMap<Integer, Integer> known) {
        if (of.isEmpty()) {
            return 0;
        }
        if (k == 0) {
            return 1000;
        }
        Integer met = known.get(of.size() * 10 + k);
        if (met != null) {
            return met;
        }
        int least = 1000;
        for (int end = 1; end <= of.size(); end++) {
            if (end == of.size() || !of.get(end).equals(of.get(end - 1))) {
                int rest = leastLongest(of.subList(end, of.size()), k - 1, known);
                least = Math.min(least, Math.max(end, rest));
            }
        }
        known.put(of.size() * 10 + k, least);
        return least;
    }

    public int even(int axis, int k) {
        if (!numeric(axis) || k < 1 || k > 8) {
            return NONE;
        }
        return leastLongest(sorted(nearAll(axis), axis), k, new TreeMap<>());
    }

    private List<Integer> catsOf(int axis) {
        List<Integer> all = new ArrayList<>();
        for (int c = 0; c < parent.size(); c++) {
            if (axisOf.get(c) == axis) {
                all.add(c);
            }
        }
        return all;
    }

    private List<Integer> byMany(List<Integer> categories, List<Doc> of) {
        TreeMap<Integer, Integer> many = new TreeMap<>();
        for (int c : categories) {
            many.put(c, howMany(of, c));
        }
        List<Integer> all = new ArrayList<>(categories);
        all.sort((x, y) -> many.get(x).equals(many.get(y)) ? x - y : many.get(y) - many.get(x));
        return all;
    }

    public int top(int axis, int cut, int i) {
        if (!tree(axis) || cut < 0 || cut > 40 || i < 0) {
            return NONE;
        }
        List<Integer> above = new ArrayList<>();
        for (int c : byMany(catsOf(axis), counted(axis))) {
            if (shown(c) > cut) {
                above.add(c);
            }
        }
        return i < above.size() ? above.get(i) : NONE;
    }

    private boolean certain(int axis, int k, List<Doc> read, int unread) {
        List<Doc> soFar = counted(axis);
        soFar.retainAll(read);
        List<Integer> all = byMany(catsOf(axis), soFar);
        for (int x = 0; x < Math.min(k, all.size()); x++) {
            for (int y = k; y < all.size(); y++) {
                int one = all.get(x);
                int other = all.get(y);
                int has = howMany(soFar, one);
                int could = howMany(soFar, other) + unread;
                if (!(has > could || has == could && one < other)) {
                    return false;
                }
            }
        }
        return true;
    }

    public int read(int axis, int k) {
        if (!tree(axis) || k < 1 || k > 9) {
            return NONE;
        }
        List<Doc> all = order();
        int n = 0;
        while (!certain(axis, k, all.subList(0, n), all.size() - n)) {
            n++;
        }
        return n;
    }

    public int path(int axis, int i) {
        if (!tree(axis) || i < 0) {
            return NONE;
        }
        List<Integer> steps = new ArrayList<>();
        int at = NONE;
        while (true) {
            int best = NONE;
            for (int c : catsOf(axis)) {
                if (parent.get(c) == at && shown(c) > (best == NONE ? 0 : shown(best))) {
                    best = c;
                }
            }
            if (best == NONE) {
                break;
            }
            steps.add(best);
            at = best;
        }
        return i < steps.size() ? steps.get(i) : NONE;
    }

    public int split() {
        int best = NONE;
        int hits = hitList().size();
        for (int c = 0; c < parent.size(); c++) {
            if (of(c, 3) == 0) {
                if (best == NONE || Math.abs(shown(c) * 2 - hits) < Math.abs(shown(best) * 2 - hits)) {
                    best = c;
                }
            }
        }
        return best;
    }

    private static int compareRows(List<Integer> x, List<Integer> y) {
        if (x.size() != y.size()) {
            return x.size() - y.size();
        }
        for (int i = 0; i < x.size(); i++) {
            if (!x.get(i).equals(y.get(i))) {
                return x.get(i) - y.get(i);
            }
        }
        return 0;
    }

    public int cover(int axis, int i) {
        if (!tree(axis) || i < NONE) {
            return NONE;
        }
        List<Integer> may = new ArrayList<>();
        for (int c : catsOf(axis)) {
            if (levelOf(c) >= 1 || !parent.contains(c)) {
                may.add(c);
            }
        }
        if (may.size() > 12) {
            return NONE;
        }
        List<Doc> needed = new ArrayList<>();
        for (Doc d : hitList()) {
            if (!isMissing(d, axis)) {
                needed.add(d);
            }
        }
        List<Integer> best = null;
        for (int ways = 0; ways < 1 << may.size(); ways++) {
            List<Integer> row = new ArrayList<>();
            for (int c = 0; c < may.size(); c++) {
                if ((ways >> c) % 2 == 1) {
                    row.add(may.get(c));
                }
            }
            if ((best == null || compareRows(row, best) < 0) && covers(row, needed)) {
                best = row;
            }
        }
        if (best == null) {
            return NONE;
        }
        return i == NONE ? best.size() : i < best.size() ? best.get(i) : NONE;
    }

    private boolean covers(List<Integer> row, List<Doc> needed) {
        for (Doc d : needed) {
            boolean met = false;
            for (int c : row) {
                met = met || hasCat(d, c);
            }
            if (!met) {
                return false;
            }
        }
        return true;
    }

    public int both(int one, int other) {
        if (!isCat(one) || !isCat(other)) {
            return NONE;
        }
        int n = 0;
        for (Doc d : hitList()) {
            n += hasCat(d, one) && hasCat(d, other) ? 1 : 0;
        }
        return n;
    }

    private int sharedBy(Doc one, Doc other) {
        int n = 0;
        for (int c = 0; c < parent.size(); c++) {
            n += hasCat(one, c) && hasCat(other, c) ? 1 : 0;
        }
        return n;
    }

    public int alike(int one, int other) {
        if (one == other || !there(one) || !there(other)) {
            return NONE;
        }
        return sharedBy(docs.get(one), docs.get(other));
    }

    public int nearest(int document) {
        if (!there(document)) {
            return NONE;
        }
        Doc best = null;
        for (Doc d : order()) {
            if (d.number != document) {
                if (best == null || sharedBy(d, docs.get(document)) > sharedBy(best, docs.get(document))) {
                    best = d;
                }
            }
        }
        return best == null ? NONE : best.number;
    }

    public int miss(int n) {
        if (n < 0 || n > 5) {
            return NONE;
        }
        int found = 0;
        for (Doc d : order()) {
            int failed = 0;
            for (int a = 0; a < kinds.size(); a++) {
                failed += passes(d, a) ? 0 : 1;
            }
            found += failed == n ? 1 : 0;
        }
        return found;
    }

    public int most() {
        Doc best = null;
        for (Doc d : hitList()) {
            if (best == null || sharedBy(d, d) > sharedBy(best, best)) {
                best = d;
            }
        }
        return best == null ? NONE : best.number;
    }

    public int middle(int axis, int what) {
        if (!numeric(axis) || what < 0 || what > 1) {
            throw new NoSuchElementException();
        }
        List<Integer> all = sorted(hitList(), axis);
        if (all.isEmpty()) {
            throw new NoSuchElementException();
        }
        if (what == 1) {
            return all.get(all.size() - 1) - all.get(0);
        }
        while (all.size() > 2) {
            all.remove(all.size() - 1);
            all.remove(0);
        }
        return all.get(0);
    }

    public int count(int what) {
        int n = 0;
        switch (what) {
            case 0: return kinds.size();
            case 1: return parent.size();
            case 2: return docs.size();
            case 3: return order().size();
            case 4: return hitList().size();
            case 5:
                for (Chosen c : chosen) {
                    n += c.categories.size();
                }
                return n;
            case 6:
                for (Chosen c : chosen) {
                    n += c.ranges.size();
                }
                return n;
            case 7:
                for (int a = 0; a < chosen.size(); a++) {
                    n += chosen.get(a).open() ? 0 : (int) Math.pow(2, a);
                }
                return n;
            case 8: return past.size();
            default: return NONE;
        }
    }
}
