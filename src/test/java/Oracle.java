import java.util.ArrayList;
import java.util.Arrays;
import java.util.List;
import java.util.function.Predicate;

/**
 * The document once more, as slowly as its words go: every order of slates is written out, none is reckoned.
 * It knows nothing of how SlateRows works, so that an answer on which both agree is right twice.
 */
final class Oracle {
    private static final class Width {
        int inches, many, worth;
        Width(int inches, int many, int worth) { this.inches = inches; this.many = many; this.worth = worth; }
        Width twin() { return new Width(inches, many, worth); }
    }

    private static final class Course {
        int length;
        List<Integer> slates = null;
        Course(int length) { this.length = length; }
        Course twin() { Course t = new Course(length); t.slates = slates == null ? null : new ArrayList<>(slates); return t; }
    }

    private static final class House {
        List<Width> widths = new ArrayList<>();
        List<Course> rows = new ArrayList<>();
        int lap = 3;
        House twin() {
            House t = new House();
            for (Width w : widths) t.widths.add(w.twin());
            for (Course c : rows) t.rows.add(c.twin());
            t.lap = lap;
            return t;
        }
        List<Integer> joints(int row) {
            List<Integer> found = new ArrayList<>();
            Course c = rows.get(row);
            if (c.slates == null) return found;
            int at = 0;
            for (int w : c.slates) {
                at += widths.get(w).inches;
                if (at < c.length) found.add(at);
            }
            return found;
        }
        boolean may(int row, int x) {
            if (row == 0) return true;
            for (int j : joints(row - 1)) if (Math.abs(j - x) < lap) return false;
            return true;
        }
        int inches(List<Integer> slates) {
            int sum = 0;
            for (int w : slates) sum += widths.get(w).inches;
            return sum;
        }
        int worth(List<Integer> slates) {
            int sum = 0;
            for (int w : slates) sum += widths.get(w).worth;
            return sum;
        }
        int worthOfHeap() {
            int sum = 0;
            for (Width w : widths) sum += w.many * w.worth;
            return sum;
        }
        int slatesInHeap() {
            int sum = 0;
            for (Width w : widths) sum += w.many;
            return sum;
        }
        /** All orders out of the heap from one place to another, in order; of whole slates, or with the last one cut. */
        List<List<Integer>> orders(int row, int from, int to, boolean cut) {
            List<List<Integer>> found = new ArrayList<>();
            go(row, from, to, cut, new ArrayList<>(), found);
            return found;
        }
        private void go(int row, int at, int to, boolean cut, List<Integer> sofar, List<List<Integer>> found) {
            for (int w = 0; w < widths.size(); w++) {
                Width width = widths.get(w);
                if (width.many == 0) continue;
                int end = at + width.inches;
                sofar.add(w);
                width.many--;
                if (end < to) {
                    if (may(row, end)) go(row, end, to, cut, sofar, found);
                } else if (end == to ? !cut : cut) {
                    found.add(new ArrayList<>(sofar));
                }
                width.many++;
                sofar.remove(sofar.size() - 1);
            }
        }
        List<List<Integer>> fills(int row) { return orders(row, 0, rows.get(row).length, false); }
        List<Integer> best(int row) {
            List<Integer> best = null;
            for (List<Integer> f : fills(row)) if (best == null || worth(f) < worth(best)) best = f;
            return best;
        }
    }

    private static final class Thing {
        int kind = -1, figure;
        int sort = -1;
        long[] numbers;
        boolean isLaying() { return kind >= 0; }
        boolean isNumbers() { return sort >= 0; }
    }

    private House house = new House();
    private House image = null;
    private final Thing[] shelves = new Thing[8];

    private boolean noRow(int row) { return row < 0 || row >= house.rows.size(); }
    private boolean noWidth(int w) { return w < 0 || w >= house.widths.size(); }
    private boolean noShelf(int d) { return d < 0 || d > 7; }
    private boolean laid(int row) { return house.rows.get(row).slates != null; }

    int roof(int d) {
        if (noShelf(d)) return -1;
        if (shelves[d] == null) return -11;
        if (!shelves[d].isNumbers() || shelves[d].sort != 0) return -12;
        StringBuilder b = new StringBuilder();
        for (long v : shelves[d].numbers) b.append((char) (v & 255));
        String text = b.toString();
        String number = "(0|[1-9][0-9]?)";
        String statement = "(w" + number + " " + number + " " + number + ";|[rl]" + number + ";)";
        if (!text.matches(statement + "+")) {
            // the longest start with which some roof goes on; what is missing of one is among these ends
            String[] ends = {"", ";", "1;", " 1;", " 1 1;", "1 1;", "1 1 1;", "w1 1 1;"};
            int place = 0;
            for (int k = 0; k <= text.length(); k++) {
                boolean goes = false;
                for (String end : ends) if ((text.substring(0, k) + end).matches(statement + "+")) goes = true;
                if (goes) place = k; else break;
            }
            return -1000 - place;
        }
        House then = house.twin();
        int at = 0;
        int statements = 0;
        for (String part : text.split(";")) {
            String[] n = part.substring(1).split(" ");
            int first = Integer.parseInt(n[0]);
            boolean well;
            if (part.charAt(0) == 'w') {
                int many = Integer.parseInt(n[1]);
                well = first >= 5 && first <= 30 && many <= 12 && then.widths.size() < 4;
                for (Width w : then.widths) if (w.inches == first) well = false;
                if (well) then.widths.add(new Width(first, many, Integer.parseInt(n[2])));
            } else if (part.charAt(0) == 'r') {
                well = first >= 10 && first <= 60 && then.rows.size() < 6;
                if (well) then.rows.add(new Course(first));
            } else {
                well = first <= 20;
                if (well) then.lap = first;
            }
            if (!well) return -2000 - at;
            at += part.length() + 1;
            statements++;
        }
        house = then;
        return statements;
    }

    int width(int w, int what) {
        if (noWidth(w) || what < 0 || what > 2) return -1;
        Width width = house.widths.get(w);
        return new int[] {width.inches, width.many, width.worth}[what];
    }

    int heap(int w, int n) {
        if (noWidth(w) || n < 0 || n > 12) return -1;
        int was = house.widths.get(w).many;
        house.widths.get(w).many = n;
        return was;
    }

    int lap(int n) {
        if (n < 0 || n > 20) return -1;
        int was = house.lap;
        house.lap = n;
        return was;
    }

    int rowOf(int row, int what) {
        if (noRow(row) || what < 0 || what > 2) return -1;
        Course c = house.rows.get(row);
        if (what == 0) return c.length;
        if (c.slates == null) return 0;
        return what == 1 ? c.slates.size() : house.inches(c.slates) - c.length;
    }

    int slate(int row, int i) {
        if (noRow(row) || i < 0) return -1;
        return laid(row) && i < house.rows.get(row).slates.size() ? house.rows.get(row).slates.get(i) : -4;
    }

    int joint(int row, int i) {
        if (noRow(row) || i < 0) return -1;
        return i < house.joints(row).size() ? house.joints(row).get(i) : -4;
    }

    int may(int row, int x) {
        if (noRow(row) || x < 1 || x > house.rows.get(row).length - 1) return -1;
        return house.may(row, x) ? 1 : 0;
    }

    private int judged(int row, long[] told) {
        int[] used = new int[house.widths.size()];
        int length = house.rows.get(row).length;
        int at = 0;
        for (int i = 0; i < told.length; i++) {
            if (told[i] < 0 || told[i] >= used.length) return i;
            int w = (int) told[i];
            if (++used[w] > house.widths.get(w).many) return i;
            if (at >= length) return i;
            at += house.widths.get(w).inches;
            if (at < length && !house.may(row, at)) return i;
        }
        return at < length ? told.length : -4;
    }

    int judge(int row, int d) {
        if (noRow(row) || noShelf(d)) return -1;
        if (laid(row)) return -3;
        if (shelves[d] == null) return -11;
        if (!shelves[d].isNumbers()) return -12;
        return judged(row, shelves[d].numbers);
    }

    int lay(int row, int d) {
        int fault = judge(row, d);
        if (noRow(row) || noShelf(d) || laid(row) || shelves[d] == null || !shelves[d].isNumbers()) return fault;
        if (fault != -4) return -3;
        List<Integer> slates = new ArrayList<>();
        for (long v : shelves[d].numbers) {
            slates.add((int) v);
            house.widths.get((int) v).many--;
        }
        house.rows.get(row).slates = slates;
        return house.inches(slates) - house.rows.get(row).length;
    }

    int takeUp(int row) {
        if (noRow(row)) return -1;
        if (!laid(row)) return -3;
        List<Integer> slates = house.rows.get(row).slates;
        if (rowOf(row, 2) > 0) slates = slates.subList(0, slates.size() - 1);
        int back = 0;
        for (int w : slates) {
            if (house.widths.get(w).many < 12) {
                house.widths.get(w).many++;
                back++;
            }
        }
        house.rows.get(row).slates = null;
        return back;
    }

    int fills(int row) {
        if (noRow(row)) return -1;
        return laid(row) ? -3 : house.fills(row).size();
    }

    private int told(List<Integer> order, int value, int i) {
        if (order == null) return -4;
        if (i == -1) return value;
        return i < order.size() ? order.get(i) : -4;
    }

    int first(int row, int i) {
        if (noRow(row) || i < 0) return -1;
        if (laid(row)) return -3;
        List<List<Integer>> fills = house.fills(row);
        return fills.isEmpty() ? -4 : told(fills.get(0), 0, i);
    }

    int best(int row, int i) {
        if (noRow(row) || i < -1) return -1;
        if (laid(row)) return -3;
        List<Integer> best = house.best(row);
        return best == null ? -4 : told(best, house.worth(best), i);
    }

    int cuts(int row, int i) {
        if (noRow(row) || i < -1) return -1;
        if (laid(row)) return -3;
        int length = house.rows.get(row).length;
        List<Integer> least = null;
        for (List<Integer> order : house.orders(row, 0, length, true)) {
            if (least == null || house.inches(order) < house.inches(least)) least = order;
        }
        return least == null ? -4 : told(least, house.inches(least) - length, i);
    }

    int uses(int row, int w) {
        if (noRow(row) || noWidth(w)) return -1;
        if (laid(row)) return -3;
        if (house.widths.get(w).many == 0) return 0;
        House fewer = house.twin();
        fewer.widths.get(w).many--;
        return house.fills(row).size() - fewer.fills(row).size();
    }

    int needs(int row, int w) {
        if (noRow(row) || noWidth(w)) return -1;
        if (laid(row)) return -3;
        House more = house.twin();
        for (int n = 0; n <= 12; n++) {
            if (more.widths.get(w).many > 12) return -4;
            if (!more.fills(row).isEmpty()) return n;
            more.widths.get(w).many++;
        }
        return -4;
    }

    int ends(int row, int w) {
        if (noRow(row) || noWidth(w)) return -1;
        if (laid(row)) return -3;
        return number(house.fills(row), f -> f.get(f.size() - 1) == w);
    }

    private static int number(List<List<Integer>> orders, Predicate<List<Integer>> which) {
        int n = 0;
        for (List<Integer> o : orders) if (which.test(o)) n++;
        return n;
    }

    int gaps(int row) {
        if (noRow(row)) return -1;
        int n = 0;
        for (int x = 1; x <= house.rows.get(row).length - 1; x++) if (house.may(row, x)) n++;
        return n;
    }

    int two(int a, int b) {
        if (noRow(a) || noRow(b) || a == b || a == b + 1 || b == a + 1) return -1;
        if (laid(a) || laid(b)) return -3;
        int least = -4;
        House rest = house.twin();
        List<int[]> tried = new ArrayList<>();
        for (List<Integer> f : house.fills(a)) {
            int[] taken = new int[4];
            for (int w : f) taken[w]++;
            // an order that takes the same leaves the same
            boolean again = false;
            for (int[] t : tried) if (Arrays.equals(t, taken)) again = true;
            if (again) continue;
            tried.add(taken);
            for (int w : f) rest.widths.get(w).many--;
            List<Integer> g = rest.best(b);
            if (g != null && (least == -4 || house.worth(f) + house.worth(g) < least)) least = house.worth(f) + house.worth(g);
            for (int w : f) rest.widths.get(w).many++;
        }
        return least;
    }

    int all(int what) {
        if (what < 0 || what > 1) return -1;
        House mind = house.twin();
        int n = 0;
        for (int row = 0; row < mind.rows.size(); row++) {
            if (mind.rows.get(row).slates != null) continue;
            List<Integer> best = mind.best(row);
            if (best == null) break;
            for (int w : best) mind.widths.get(w).many--;
            mind.rows.get(row).slates = best;
            n++;
        }
        return what == 0 ? n : mind.worthOfHeap();
    }

    int broken(int row, int i) {
        if (noRow(row) || !laid(row) || i < 0 || i >= house.rows.get(row).slates.size()) return -1;
        List<Integer> slates = house.rows.get(row).slates;
        int length = house.rows.get(row).length;
        boolean cut = house.inches(slates) > length;
        int least = -4;
        for (int from = 0; from <= i; from++) {
            for (int to = i; to < slates.size(); to++) {
                House mind = house.twin();
                for (int k = from; k <= to; k++) {
                    if (k != i && !(cut && k == slates.size() - 1)) mind.widths.get(slates.get(k)).many++;
                }
                int begin = house.inches(slates.subList(0, from));
                int end = Math.min(length, house.inches(slates.subList(0, to + 1)));
                boolean filled = !mind.orders(row, begin, end, false).isEmpty();
                if (filled && (least == -4 || to - from + 1 < least)) least = to - from + 1;
            }
        }
        return least;
    }

    int by(int row, int d, int z, int what) {
        if (noRow(row) || noShelf(d) || what < 0 || what > 2) return -1;
        if (laid(row)) return -3;
        if (shelves[d] == null) return -11;
        if (!shelves[d].isLaying()) return -12;
        int[] got = course(house.twin(), row, shelves[d].kind, shelves[d].figure, z);
        return got == null ? -4 : got[what];
    }

    private static boolean mayBeLaid(House mind, int row, int kind, int at, int w) {
        int end = at + mind.widths.get(w).inches;
        int length = mind.rows.get(row).length;
        if (end > length) return kind == 4;
        return end == length || mind.may(row, end);
    }

    /** A slate by the seed z, by laying out the heap slate by slate. */
    private static int handed(House mind, int z) {
        List<Integer> heap = new ArrayList<>();
        for (int w = 0; w < mind.widths.size(); w++) for (int k = 0; k < mind.widths.get(w).many; k++) heap.add(w);
        int w = heap.get(((z & Integer.MAX_VALUE) >>> 16) % heap.size());
        mind.widths.get(w).many--;
        return w;
    }

    private static int[] course(House mind, int row, int kind, int figure, int z) {
        int at = 0, n = 0, aside = 0;
        int length = mind.rows.get(row).length;
        while (at < length) {
            List<Integer> may = new ArrayList<>();
            for (int w = 0; w < mind.widths.size(); w++) {
                if (mind.widths.get(w).many > 0 && mayBeLaid(mind, row, kind, at, w)) may.add(w);
            }
            if (may.isEmpty()) return null;
            int laid = -1;
            if (kind == 2 || kind == 5) {
                z = z * 1103515245 + 12345;
                int one = handed(mind, z);
                boolean oneMay = mayBeLaid(mind, row, kind, at, one);
                if (kind == 2 || mind.slatesInHeap() == 0) {
                    if (oneMay) laid = one;
                } else {
                    z = z * 1103515245 + 12345;
                    int other = handed(mind, z);
                    boolean otherMay = mayBeLaid(mind, row, kind, at, other);
                    if (oneMay && (!otherMay || mind.widths.get(one).inches > mind.widths.get(other).inches)) {
                        laid = one;
                        mind.widths.get(other).many++;
                    } else if (otherMay) {
                        laid = other;
                        mind.widths.get(one).many++;
                    }
                }
                if (laid < 0) {
                    aside++;
                    if (aside > figure + 2) return null;
                    continue;
                }
            } else {
                for (int w : may) if (laid < 0 || better(mind, kind, figure, w, laid)) laid = w;
                mind.widths.get(laid).many--;
            }
            at += mind.widths.get(laid).inches;
            n++;
        }
        return new int[] {n, at - length, aside};
    }

    private static boolean better(House mind, int kind, int figure, int w, int than) {
        int a = mind.widths.get(w).inches, b = mind.widths.get(than).inches;
        switch (kind) {
            case 1: case 4: return a > b;
            case 3: return a < b;
            case 6: return Math.abs(w - figure % 4) < Math.abs(than - figure % 4);
            default: return w < than;
        }
    }

    int image() {
        image = house.twin();
        return house.rows.size();
    }

    int restore() {
        if (image == null) return -3;
        house = image.twin();
        return house.rows.size();
    }

    int count(int what) {
        switch (what) {
            case 0: return house.widths.size();
            case 1: return house.rows.size();
            case 2: return house.lap;
            case 3: return house.slatesInHeap();
            case 4: int n = 0; for (Course c : house.rows) if (c.slates != null) n++; return n;
            case 5: return house.worthOfHeap();
            default: return -1;
        }
    }

    int keep(int d, int what, int k, int figure) {
        if (noShelf(d)) return -1;
        if (what == 0) {
            shelves[d] = null;
            return 0;
        }
        if (what != 1 || k < 0 || k > 6 || figure < 0 || figure > 9) return -1;
        shelves[d] = new Thing();
        shelves[d].kind = k;
        shelves[d].figure = figure;
        return 0;
    }

    int row(int d, int sort, int n) {
        if (noShelf(d) || sort < 0 || sort > 2 || n > 100) return -1;
        if (n < 0) return -14;
        shelves[d] = new Thing();
        shelves[d].sort = sort;
        shelves[d].numbers = new long[n];
        return 0;
    }

    int put(int d, int i, int v) {
        if (noShelf(d)) return -1;
        if (shelves[d] == null) return -11;
        if (!shelves[d].isNumbers()) return -12;
        if (i < 0 || i >= shelves[d].numbers.length) return -13;
        int off = new int[] {24, 16, 0}[shelves[d].sort];
        shelves[d].numbers[i] = v << off >> off;
        return 0;
    }

    /** The element; -1L << 40 for an IllegalArgumentException, -1L << 41 for an IllegalStateException. */
    long element(int d, int i) {
        if (noShelf(d)) return -1L << 40;
        if (shelves[d] == null || !shelves[d].isNumbers() || i < 0 || i >= shelves[d].numbers.length) return -1L << 41;
        return shelves[d].numbers[i];
    }

    int copy(int d, int i, int e, int j, int n) {
        if (noShelf(d) || noShelf(e)) return -1;
        Thing a = shelves[d], b = shelves[e];
        if (a == null || b == null) return -11;
        if (!a.isNumbers() || !b.isNumbers() || a.sort != b.sort) return -12;
        if (n < 0 || i < 0 || j < 0 || (long) i + n > a.numbers.length || (long) j + n > b.numbers.length) return -13;
        long[] taken = a.numbers.clone();
        for (int k = 0; k < n; k++) b.numbers[j + k] = taken[i + k];
        return n;
    }

    int toil(int d) {
        if (noShelf(d)) return -1000000001;
        if (shelves[d] == null) return -1000000011;
        if (!shelves[d].isLaying()) return -1000000012;
        return toilOf(shelves[d].kind, shelves[d].figure);
    }

    private static int toilOf(int kind, int figure) {
        switch (kind) {
            case 1: return toilOf(0, figure) + figure;
            case 2: return toilOf(0, figure) * 3;
            case 3: return toilOf(1, figure) + 4;
            case 4: return toilOf(0, figure) - figure;
            case 5: return toilOf(2, figure) + figure;
            case 6: return toilOf(3, figure) / 2;
            default: return 2;
        }
    }

    int toss(int d) {
        if (noShelf(d)) return -1;
        if (shelves[d] == null) return -11;
        if (!shelves[d].isLaying()) return -12;
        int kind = shelves[d].kind, figure = shelves[d].figure;
        if (kind == 4 || figure == 0) return -15;
        if (kind == 6) return 200 + toil(d);
        return kind == 2 || kind == 5 ? 100 + figure : figure;
    }
}
