import java.util.Random;

/** Runs of calls drawn from fixed seeds, each answer of which is held against the oracle's. */
public final class AgainstOracleTest {
    private static final int RUNS = 1800;
    private static final int CALLS = 220;
    /** A roof takes 102 calls at most, a draw of calls no more; behind the 512th call nothing is promised. */
    private static final int LAST_DRAW = 512 - 102;
    private static final int[] ODD = {-1, -2, 100, 101, 1000, Integer.MIN_VALUE, Integer.MAX_VALUE};

    private final Random random;
    private final Check check;
    private final int run;
    private final SlateRows x = new SlateRows();
    private final Oracle o = new Oracle();
    /** Runs with many small slates are slow for the oracle, so that few runs have them. */
    private final boolean isLarge;
    private int asked = 0;

    private AgainstOracleTest(int run, Check check) {
        this.run = run;
        this.check = check;
        this.random = new Random(run);
        this.isLarge = run % 50 == 0;
    }

    public static void main(String[] args) {
        Check check = new Check();
        for (int run = 0; run < RUNS; run++) {
            AgainstOracleTest test = new AgainstOracleTest(run, check);
            test.readRoof(test.goodRoof());
            int calls = test.isLarge ? 40 : CALLS;
            for (int call = 0; call < calls && test.asked <= LAST_DRAW; call++) {
                test.someCall();
            }
        }
        check.finish("AgainstOracleTest");
    }

    private void due(long got, long want, String call, int... arguments) {
        asked++;
        check.due("run " + run + ": " + Script.told(call, arguments), got, want);
    }

    /** A number from 0 to most - 1, now and then one around it or far off. */
    private int about(int most) {
        if (random.nextInt(25) == 0) {
            return random.nextBoolean() ? most : ODD[random.nextInt(ODD.length)];
        }
        return most <= 0 ? 0 : random.nextInt(most);
    }

    private int someRow() {
        return about(o.count(1));
    }

    private int someWidth() {
        return about(o.count(0));
    }

    private int someShelf() {
        return about(8);
    }

    private String goodRoof() {
        StringBuilder text = new StringBuilder();
        int widths = 1 + random.nextInt(4);
        for (int w = 0; w < widths; w++) {
            int inches = isLarge ? 5 + w : 5 + random.nextInt(random.nextBoolean() ? 8 : 26);
            int many = isLarge ? 6 + random.nextInt(7) : random.nextInt(6);
            text.append('w').append(inches).append(' ').append(many).append(' ').append(random.nextInt(100)).append(';');
        }
        int rows = 1 + random.nextInt(6);
        for (int r = 0; r < rows; r++) {
            text.append('r').append(10 + random.nextInt(isLarge ? 46 : 51)).append(';');
        }
        if (random.nextInt(3) > 0) {
            text.append('l').append(random.nextInt(random.nextInt(4) == 0 ? 21 : 4)).append(';');
        }
        return text.toString();
    }

    private String someRoof() {
        StringBuilder text = new StringBuilder(random.nextInt(4) == 0 ? goodRoof() : statement());
        if (random.nextInt(2) == 0) {
            text.append(statement());
        }
        if (random.nextInt(2) == 0) {
            int at = random.nextInt(text.length());
            char sign = "wrl0123456789 ;;  x".charAt(random.nextInt(19));
            switch (random.nextInt(4)) {
                case 0: text.setCharAt(at, sign); break;
                case 1: text.insert(at, sign); break;
                case 2: text.deleteCharAt(at); break;
                default: text.setLength(at);
            }
        }
        return text.length() > 100 ? text.substring(0, 100) : text.toString();
    }

    private String statement() {
        switch (random.nextInt(4)) {
            case 0: return "w" + random.nextInt(33) + " " + random.nextInt(15) + " " + random.nextInt(100) + ";";
            case 1: return "r" + random.nextInt(65) + ";";
            default: return "l" + random.nextInt(23) + ";";
        }
    }

    private void readRoof(String text) {
        int d = random.nextInt(8);
        putAll(d, 0, text.chars().toArray());
        due(x.roof(d), o.roof(d), "roof", d);
    }

    private void putAll(int d, int sort, int... values) {
        due(x.row(d, sort, values.length), o.row(d, sort, values.length), "row", d, sort, values.length);
        for (int i = 0; i < values.length; i++) {
            due(x.put(d, i, values[i]), o.put(d, i, values[i]), "put", d, i, values[i]);
        }
    }

    /** Slates for a row: those of a fill, of a cut order, or any; now and then with one changed, more or fewer. */
    private int[] someSlates(int row) {
        int[] slates = new int[13];
        int n = 0;
        int way = random.nextInt(4);
        for (int i = 0; i < 13; i++) {
            int w = way == 0 ? o.first(row, i) : way == 1 ? o.best(row, i) : way == 2 ? o.cuts(row, i) : someWidth();
            if (w < 0 && way < 3 || way == 3 && random.nextInt(8) == 0) {
                break;
            }
            slates[n++] = w;
        }
        if (random.nextInt(4) == 0 && n < 13) {
            n += random.nextBoolean() || n == 0 ? 1 : -1;
        }
        if (random.nextInt(6) == 0 && n > 0) {
            slates[random.nextInt(n)] = someWidth();
        }
        return java.util.Arrays.copyOf(slates, n);
    }

    private void layOrJudge() {
        int row = someRow();
        int d = random.nextInt(4);
        if (random.nextInt(5) > 0) {
            putAll(d, random.nextInt(3), someSlates(row));
        } else {
            d = someShelf();
        }
        due(x.judge(row, d), o.judge(row, d), "judge", row, d);
        due(x.lay(row, d), o.lay(row, d), "lay", row, d);
        due(x.rowOf(row, 1), o.rowOf(row, 1), "rowOf", row, 1);
        due(x.count(3), o.count(3), "count", 3);
    }

    private void someCall() {
        switch (random.nextInt(5)) {
            case 0: callOfRoof(); break;
            case 1: callOfRows(); break;
            case 2: callOfShelves(); break;
            default: callOfWays();
        }
    }

    private void callOfRoof() {
        int a = someWidth();
        int b = about(3);
        int n = about(isLarge ? 13 : 6);
        switch (random.nextInt(12)) {
            case 0: readRoof(someRoof()); break;
            case 1: due(x.width(a, b), o.width(a, b), "width", a, b); break;
            case 2: case 3: due(x.heap(a, n), o.heap(a, n), "heap", a, n); break;
            case 4:
                n = about(random.nextInt(3) == 0 ? 21 : 4);
                due(x.lap(n), o.lap(n), "lap", n);
                break;
            case 5: case 6:
                a = someRow();
                due(x.rowOf(a, b), o.rowOf(a, b), "rowOf", a, b);
                break;
            case 7: if (random.nextBoolean()) due(x.image(), o.image(), "image"); break;
            case 8: if (random.nextBoolean()) due(x.restore(), o.restore(), "restore"); break;
            case 9:
                a = someShelf();
                due(x.roof(a), o.roof(a), "roof", a);
                break;
            default:
                b = about(6);
                due(x.count(b), o.count(b), "count", b);
        }
    }

    private void callOfRows() {
        int row = someRow();
        int i = about(6);
        switch (random.nextInt(8)) {
            case 0: due(x.slate(row, i), o.slate(row, i), "slate", row, i); break;
            case 1: due(x.joint(row, i), o.joint(row, i), "joint", row, i); break;
            case 2:
                i = about(62);
                due(x.may(row, i), o.may(row, i), "may", row, i);
                break;
            case 3: due(x.takeUp(row), o.takeUp(row), "takeUp", row); break;
            default: layOrJudge();
        }
    }

    private void callOfWays() {
        int row = someRow();
        int w = someWidth();
        int i = about(8) - (random.nextInt(3) == 0 ? 1 : 0);
        switch (random.nextInt(isLarge ? 8 : 14)) {
            case 0: due(x.fills(row), o.fills(row), "fills", row); break;
            case 1: due(x.first(row, i), o.first(row, i), "first", row, i); break;
            case 2: due(x.best(row, i), o.best(row, i), "best", row, i); break;
            case 3: due(x.cuts(row, i), o.cuts(row, i), "cuts", row, i); break;
            case 4: due(x.uses(row, w), o.uses(row, w), "uses", row, w); break;
            case 5: due(x.ends(row, w), o.ends(row, w), "ends", row, w); break;
            case 6: due(x.gaps(row), o.gaps(row), "gaps", row); break;
            case 7: courses(row); break;
            case 8: due(x.needs(row, w), o.needs(row, w), "needs", row, w); break;
            case 9: case 10:
                int other = someRow();
                due(x.two(row, other), o.two(row, other), "two", row, other);
                break;
            case 11:
                i = about(2);
                due(x.all(i), o.all(i), "all", i);
                break;
            default: due(x.broken(row, i), o.broken(row, i), "broken", row, i);
        }
    }

    private void courses(int row) {
        int d = someShelf();
        if (random.nextInt(6) > 0) {
            int kind = random.nextInt(7);
            int figure = random.nextInt(10);
            due(x.keep(d, 1, kind, figure), o.keep(d, 1, kind, figure), "keep", d, 1, kind, figure);
        }
        for (int k = 0; k < 3; k++) {
            int z = random.nextInt();
            for (int what = 0; what < 3; what++) {
                due(x.by(row, d, z, what), o.by(row, d, z, what), "by", row, d, z, what);
            }
        }
        int what = about(3);
        due(x.by(row, d, 1, what), o.by(row, d, 1, what), "by", row, d, 1, what);
    }

    private void callOfShelves() {
        int d = someShelf();
        int i = about(12);
        switch (random.nextInt(9)) {
            case 0:
                int what = about(2), kind = about(7), figure = about(10);
                due(x.keep(d, what, kind, figure), o.keep(d, what, kind, figure), "keep", d, what, kind, figure);
                break;
            case 1: case 2:
                int sort = about(3), n = about(12);
                due(x.row(d, sort, n), o.row(d, sort, n), "row", d, sort, n);
                break;
            case 3: case 4:
                int v = random.nextBoolean() ? random.nextInt() : random.nextInt(600) - 300;
                due(x.put(d, i, v), o.put(d, i, v), "put", d, i, v);
                break;
            case 5: element(d, i); break;
            case 6:
                int e = random.nextBoolean() ? d : someShelf(), j = about(12), many = about(5);
                due(x.copy(d, i, e, j, many), o.copy(d, i, e, j, many), "copy", d, i, e, j, many);
                for (int k = 0; k < 12; k++) element(e, k);
                break;
            case 7: due(x.toil(d), o.toil(d), "toil", d); break;
            default: due(x.toss(d), o.toss(d), "toss", d);
        }
    }

    private void element(int d, int i) {
        long got;
        try {
            got = x.element(d, i);
        } catch (IllegalArgumentException e) {
            got = -1L << 40;
        } catch (IllegalStateException e) {
            got = -1L << 41;
        }
        due(got, o.element(d, i), "element", d, i);
    }
}
