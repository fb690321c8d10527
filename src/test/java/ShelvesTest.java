/** Promises 28 to 34: shelves. */
public final class ShelvesTest {
    private static final Check CHECK = new Check();

    public static void main(String[] args) {
        kept();
        rowsOfNumbers();
        lowestBits();
        refusalsOfPut();
        elements();
        copied();
        copiedOntoItself();
        refusalsOfCopy();
        toil();
        tossed();
        CHECK.finish("ShelvesTest");
    }

    private static void due(String call, long got, long want) {
        CHECK.due(call, got, want);
    }

    private static void kept() {
        SlateRows x = new SlateRows();
        due("28: a laying", x.keep(0, 1, 0, 0), 0);
        due("28: the last shelf", x.keep(7, 1, 6, 9), 0);
        due("28: it is there", x.toil(7), 7);
        due("28: no such shelf", x.keep(8, 1, 0, 0), -1);
        due("28: no such shelf", x.keep(-1, 0, 0, 0), -1);
        due("28: no such kind", x.keep(0, 1, 7, 0), -1);
        due("28: no such kind", x.keep(0, 1, -1, 0), -1);
        due("28: no such figure", x.keep(0, 1, 0, 10), -1);
        due("28: no such figure", x.keep(0, 1, 0, -1), -1);
        due("28: what 2", x.keep(0, 2, 0, 0), -1);
        due("28: what -1", x.keep(0, -1, 0, 0), -1);
        due("28: nothing changed", x.toil(0), 2);
        due("28: nothing, the others do not matter", x.keep(0, 0, -5, 99), 0);
        due("28: nothing is held", x.toil(0), -1000000011);
        due("28: others are as they were", x.toil(7), 7);
        x.row(0, 2, 4);
        due("28: in place of numbers", x.keep(0, 1, 1, 1), 0);
        due("28: no numbers any more", x.put(0, 0, 0), -12);
        due("28: the laying", x.toil(0), 3);
    }

    private static void rowsOfNumbers() {
        SlateRows x = new SlateRows();
        due("29: a hundred", x.row(0, 2, 100), 0);
        due("29: the last place", x.put(0, 99, 5), 0);
        due("29: the first place", x.put(0, 0, 6), 0);
        due("29: no more", x.put(0, 100, 5), -13);
        due("29: none", x.row(1, 0, 0), 0);
        due("29: no place", x.put(1, 0, 0), -13);
        due("29: too many", x.row(0, 2, 101), -1);
        due("29: below 0", x.row(0, 2, -1), -14);
        due("29: far below 0", x.row(0, 2, Integer.MIN_VALUE), -14);
        due("29: no such sort", x.row(0, 3, 1), -1);
        due("29: no such sort", x.row(0, -1, 1), -1);
        due("29: -1 goes ahead", x.row(0, 3, -1), -1);
        due("29: -1 goes ahead", x.row(8, 0, -1), -1);
        due("29: no such shelf", x.row(-1, 0, 1), -1);
        due("29: nothing changed", x.element(0, 99), 5);
        due("29: anew", x.row(0, 2, 100), 0);
        due("29: all are 0", x.element(0, 99), 0);
        due("29: the first, too", x.element(0, 0), 0);
        x.keep(0, 1, 3, 3);
        due("29: in place of a laying", x.row(0, 1, 2), 0);
        due("29: no laying any more", x.toil(0), -1000000012);
        due("29: 0 at first", x.element(0, 1), 0);
    }

    private static void lowestBits() {
        SlateRows x = new SlateRows();
        int[] values = {127, 128, 255, 256, -1, -129, 32767, 32768, 65536, Integer.MAX_VALUE, Integer.MIN_VALUE};
        for (int sort = 0; sort < 3; sort++) {
            Check.numbers(x, sort, sort, values);
            for (int i = 0; i < values.length; i++) {
                long want = sort == 0 ? (byte) values[i] : sort == 1 ? (short) values[i] : values[i];
                due("30: " + values[i] + " of sort " + sort, x.element(sort, i), want);
            }
        }
    }

    private static void refusalsOfPut() {
        SlateRows x = new SlateRows();
        x.row(0, 0, 3);
        x.keep(1, 1, 0, 0);
        due("30: put(8, ..)", x.put(8, 0, 0), -1);
        due("30: put(-1, ..)", x.put(-1, 0, 0), -1);
        due("30: nothing", x.put(2, 0, 0), -11);
        due("30: nothing ahead of no place", x.put(2, -1, 0), -11);
        due("30: a laying", x.put(1, 0, 0), -12);
        due("30: no place", x.put(0, 3, 0), -13);
        due("30: no place", x.put(0, -1, 0), -13);
        due("30: well", x.put(0, 2, 9), 0);
        due("30: it is put", x.element(0, 2), 9);
        due("30: beside it is none", x.element(0, 1), 0);
    }

    private static void elements() {
        SlateRows x = new SlateRows();
        Check.numbers(x, 0, 2, 4, -5);
        x.keep(1, 1, 0, 0);
        due("31: element(0, 0)", x.element(0, 0), 4);
        due("31: element(0, 1)", x.element(0, 1), -5);
        due("31: element(0, 1) throws", Check.thrownByElement(x, 0, 1), 0);
        due("31: no such shelf", Check.thrownByElement(x, 8, 0), 1);
        due("31: no such shelf", Check.thrownByElement(x, -1, 0), 1);
        due("31: no such place", Check.thrownByElement(x, 0, 2), 2);
        due("31: no such place", Check.thrownByElement(x, 0, -1), 2);
        due("31: a laying", Check.thrownByElement(x, 1, 0), 2);
        due("31: nothing", Check.thrownByElement(x, 2, 0), 2);
    }

    private static void copied() {
        SlateRows x = new SlateRows();
        Check.numbers(x, 0, 1, 1, 2, 3, 4, 5);
        Check.numbers(x, 1, 1, 9, 9, 9, 9);
        due("32: three", x.copy(0, 2, 1, 1, 3), 3);
        int[] want = {9, 3, 4, 5};
        for (int i = 0; i < 4; i++) {
            due("32: element " + i, x.element(1, i), want[i]);
        }
        due("32: the source stays", x.element(0, 2), 3);
        due("32: none", x.copy(0, 0, 1, 0, 0), 0);
        due("32: none at the ends", x.copy(0, 5, 1, 4, 0), 0);
        due("32: all of it", x.copy(1, 0, 0, 0, 4), 4);
        due("32: all of it", x.element(0, 0), 9);
        due("32: behind it", x.element(0, 4), 5);
    }

    private static void copiedOntoItself() {
        SlateRows x = new SlateRows();
        Check.numbers(x, 0, 0, 1, 2, 3, 4, 5);
        due("32: on", x.copy(0, 0, 0, 1, 4), 4);
        int[] on = {1, 1, 2, 3, 4};
        for (int i = 0; i < 5; i++) {
            due("32: on, element " + i, x.element(0, i), on[i]);
        }
        due("32: back", x.copy(0, 1, 0, 0, 4), 4);
        int[] back = {1, 2, 3, 4, 4};
        for (int i = 0; i < 5; i++) {
            due("32: back, element " + i, x.element(0, i), back[i]);
        }
    }

    private static void refusalsOfCopy() {
        SlateRows x = new SlateRows();
        Check.numbers(x, 0, 0, 1, 2, 3);
        Check.numbers(x, 1, 0, 4, 5);
        Check.numbers(x, 2, 1, 6, 7);
        x.keep(3, 1, 0, 0);
        due("32: no such shelf", x.copy(8, 0, 0, 0, 1), -1);
        due("32: no such shelf", x.copy(0, 0, -1, 0, 1), -1);
        due("32: -1 goes ahead", x.copy(4, 0, 8, 0, 1), -1);
        due("32: nothing", x.copy(4, 0, 0, 0, 1), -11);
        due("32: nothing", x.copy(0, 0, 4, 0, 1), -11);
        due("32: nothing ahead of a laying", x.copy(3, 0, 4, 0, 1), -11);
        due("32: a laying", x.copy(3, 0, 0, 0, 1), -12);
        due("32: a laying", x.copy(0, 0, 3, 0, 1), -12);
        due("32: two layings", x.copy(3, 0, 3, 0, 1), -12);
        due("32: unlike sorts", x.copy(0, 0, 2, 0, 1), -12);
        due("32: unlike sorts ahead of no place", x.copy(0, -1, 2, 0, 1), -12);
        due("32: n below 0", x.copy(0, 0, 1, 0, -1), -13);
        due("32: i below 0", x.copy(0, -1, 1, 0, 1), -13);
        due("32: j below 0", x.copy(0, 0, 1, -1, 1), -13);
        due("32: beyond the source", x.copy(1, 1, 0, 0, 2), -13);
        due("32: beyond the target", x.copy(0, 0, 1, 0, 3), -13);
        due("32: i beyond the end", x.copy(0, 4, 1, 0, 0), -13);
        due("32: j beyond the end", x.copy(0, 0, 1, 3, 0), -13);
        due("32: far", x.copy(0, Integer.MAX_VALUE, 1, 0, Integer.MAX_VALUE), -13);
        due("32: far", x.copy(0, 1, 1, 1, Integer.MAX_VALUE), -13);
        due("32: nothing changed", x.element(1, 0), 4);
    }

    private static void toil() {
        SlateRows x = new SlateRows();
        for (int figure = 0; figure <= 9; figure++) {
            int[] want = {2, 2 + figure, 6, 6 + figure, 2 - figure, 6 + figure, (6 + figure) / 2};
            for (int kind = 0; kind <= 6; kind++) {
                x.keep(0, 1, kind, figure);
                due("33: kind " + kind + " figure " + figure, x.toil(0), want[kind]);
            }
        }
        due("33: no such shelf", x.toil(8), -1000000001);
        due("33: no such shelf", x.toil(-1), -1000000001);
        due("33: nothing", x.toil(1), -1000000011);
        x.row(1, 0, 0);
        due("33: numbers", x.toil(1), -1000000012);
    }

    private static void tossed() {
        SlateRows x = new SlateRows();
        for (int figure = 0; figure <= 9; figure++) {
            int[] want = {figure, figure, 100 + figure, figure, -15, 100 + figure, 200 + (6 + figure) / 2};
            for (int kind = 0; kind <= 6; kind++) {
                x.keep(0, 1, kind, figure);
                due("34: kind " + kind + " figure " + figure, x.toss(0), figure == 0 ? -15 : want[kind]);
            }
        }
        due("34: the laying stays", x.toil(0), 7);
        due("34: no such shelf", x.toss(8), -1);
        due("34: no such shelf", x.toss(-1), -1);
        due("34: nothing", x.toss(1), -11);
        x.row(1, 0, 0);
        due("34: numbers", x.toss(1), -12);
    }
}
