/** Promise 24: by. What is handed was reckoned apart from this program. */
public final class ByTest {
    private static final Check CHECK = new Check();
    private static final int LAYING = 0;
    private static final int ANY = 1;
    private static final int HANDED = 2;
    private static final int SORTED = 3;
    private static final int CUT = 4;
    private static final int MANY = 5;
    private static final int TOLD = 6;

    public static void main(String[] args) {
        chosen();
        toldByFigure();
        chosenAboveALaidRow();
        atTheLengthNoJointIsAsked();
        handed();
        handedOutOfALittleHeap();
        manyHanded();
        inMindAlone();
        refusals();
        CHECK.finish("ByTest");
    }

    private static void due(String call, long got, long want) {
        CHECK.due("24: " + call, got, want);
    }

    /** How many slates, by how much it is cut, how often some were put aside. */
    private static void by(SlateRows x, int row, int kind, int figure, int z, int... want) {
        x.keep(0, 1, kind, figure);
        for (int what = 0; what < 3; what++) {
            String call = "kind " + kind + " figure " + figure + " z " + z + " what " + what;
            due(call, x.by(row, 0, z, what), want.length == 3 ? want[what] : -4);
        }
    }

    private static void stuck(SlateRows x, int row, int kind, int figure, int z) {
        by(x, row, kind, figure, z);
    }

    private static void chosen() {
        SlateRows x = Check.withRoof("w5 6 1;w8 6 1;w12 6 1;r30;r36;r12;r11;");
        by(x, 0, LAYING, 0, 0, 6, 0, 0);
        stuck(x, 0, ANY, 0, 0);
        by(x, 0, SORTED, 0, 0, 6, 0, 0);
        by(x, 0, CUT, 0, 0, 3, 6, 0);
        by(x, 1, ANY, 9, 0, 3, 0, 0);
        by(x, 1, CUT, 9, 0, 3, 0, 0);
        stuck(x, 1, LAYING, 0, 0);
        by(x, 2, ANY, 0, 0, 1, 0, 0);
        by(x, 3, CUT, 0, 0, 1, 1, 0);
        stuck(x, 3, ANY, 0, 0);
        x.heap(0, 4);
        stuck(x, 0, LAYING, 0, 0);
        x.heap(2, 2);
        by(x, 0, CUT, 0, 0, 3, 2, 0);
        x.heap(2, 0);
        x.heap(1, 0);
        stuck(x, 0, CUT, 0, 0);
        SlateRows turned = Check.withRoof("w12 6 1;w5 6 1;w8 6 1;r30;r36;");
        by(turned, 0, SORTED, 0, 0, 6, 0, 0);
        by(turned, 1, LAYING, 0, 0, 3, 0, 0);
        by(turned, 1, ANY, 0, 0, 3, 0, 0);
        stuck(turned, 0, LAYING, 0, 0);
        SlateRows bare = Check.withRoof("r30;");
        for (int kind = LAYING; kind <= TOLD; kind++) {
            stuck(bare, 0, kind, 5, 1);
        }
    }

    private static void toldByFigure() {
        SlateRows x = Check.withRoof("w5 6 1;w8 6 1;w12 6 1;w30 1 1;r30;r36;r32;");
        by(x, 0, TOLD, 0, 0, 6, 0, 0);
        by(x, 0, TOLD, 4, 0, 6, 0, 0);
        by(x, 0, TOLD, 8, 0, 6, 0, 0);
        by(x, 2, TOLD, 1, 0, 4, 0, 0);
        by(x, 2, TOLD, 9, 0, 4, 0, 0);
        by(x, 1, TOLD, 2, 0, 3, 0, 0);
        by(x, 1, TOLD, 6, 0, 3, 0, 0);
        by(x, 0, TOLD, 3, 0, 1, 0, 0);
        by(x, 0, TOLD, 7, 0, 1, 0, 0);
        x.heap(3, 0);
        by(x, 1, TOLD, 3, 0, 3, 0, 0);
        x.heap(1, 0);
        by(x, 0, TOLD, 1, 0, 6, 0, 0);
        by(x, 1, TOLD, 2, 0, 3, 0, 0);
    }

    private static void chosenAboveALaidRow() {
        SlateRows x = Check.withRoof("w10 6 1;w15 2 1;w6 5 1;r30;r30;");
        Check.lay(x, 0, 0, 0, 0);
        // 10 may not be: 15, then 25 may be, and nothing goes on
        x.heap(2, 0);
        stuck(x, 1, LAYING, 0, 0);
        by(x, 1, ANY, 0, 0, 2, 0, 0);
        by(x, 1, CUT, 0, 0, 2, 0, 0);
        x.heap(2, 5);
        // 6 may be, 12 may not, 16 may be, 22 may not, 26 may be
        stuck(x, 1, SORTED, 0, 0);
        x.lap(2);
        by(x, 1, SORTED, 0, 0, 5, 0, 0);
    }

    private static void atTheLengthNoJointIsAsked() {
        SlateRows x = Check.withRoof("w10 6 1;w5 6 1;w20 6 1;r30;r20;");
        Check.lay(x, 0, 0, 0, 0);
        by(x, 1, ANY, 0, 0, 1, 0, 0);
        x.heap(2, 0);
        by(x, 1, TOLD, 0, 0, 3, 0, 0);
        x.heap(0, 1);
        x.heap(1, 2);
        by(x, 1, LAYING, 0, 0, 3, 0, 0);
    }

    private static void handed() {
        SlateRows x = Check.withRoof("w10 4 1;w30 4 1;r20;");
        by(x, 0, HANDED, 0, 3, 2, 0, 0);
        by(x, 0, HANDED, 0, 5, 2, 0, 1);
        by(x, 0, HANDED, 0, 8, 2, 0, 1);
        by(x, 0, HANDED, 0, 0, 2, 0, 2);
        by(x, 0, HANDED, 0, -5, 2, 0, 2);
        by(x, 0, HANDED, 0, -2, 2, 0, 0);
        stuck(x, 0, HANDED, 0, 2);
        by(x, 0, HANDED, 1, 2, 2, 0, 3);
        stuck(x, 0, HANDED, 0, -6);
        by(x, 0, HANDED, 1, -6, 2, 0, 3);
        stuck(x, 0, HANDED, 0, 7);
        stuck(x, 0, HANDED, 1, 7);
        by(x, 0, HANDED, 2, 7, 2, 0, 4);
        by(x, 0, HANDED, 9, 7, 2, 0, 4);
    }

    private static void handedOutOfALittleHeap() {
        SlateRows x = Check.withRoof("w20 1 1;r20;r40;");
        for (int kind : new int[] {HANDED, MANY}) {
            for (int z = -3; z <= 3; z++) {
                by(x, 0, kind, 0, z, 1, 0, 0);
                stuck(x, 1, kind, 0, z);
            }
        }
        x.heap(0, 2);
        for (int z = -3; z <= 3; z++) {
            by(x, 1, MANY, 0, z, 2, 0, 0);
            by(x, 1, HANDED, 0, z, 2, 0, 0);
        }
        // a slate that would have to be cut may not be laid
        SlateRows cut = Check.withRoof("w15 4 1;r20;");
        stuck(cut, 0, HANDED, 9, 1);
        stuck(cut, 0, MANY, 9, 1);
    }

    private static void manyHanded() {
        SlateRows x = Check.withRoof("w5 3 1;w10 3 1;w30 6 1;r20;");
        by(x, 0, MANY, 0, -5, 3, 0, 1);
        by(x, 0, MANY, 0, -4, 2, 0, 0);
        by(x, 0, MANY, 0, -3, 3, 0, 1);
        by(x, 0, MANY, 0, -2, 3, 0, 2);
        by(x, 0, MANY, 0, -1, 2, 0, 1);
        by(x, 0, MANY, 0, 0, 3, 0, 1);
        by(x, 0, MANY, 0, 1, 3, 0, 0);
        by(x, 0, MANY, 0, 2, 2, 0, 0);
        by(x, 0, MANY, 0, 5, 3, 0, 2);
        by(x, 0, MANY, 0, 9, 3, 0, 0);
        by(x, 0, MANY, 0, 10, 2, 0, 1);
        stuck(x, 0, MANY, 0, -6);
        by(x, 0, MANY, 1, -6, 3, 0, 3);
    }

    private static void inMindAlone() {
        SlateRows x = Check.withRoof("w10 4 1;w30 4 1;r20;");
        for (int kind = LAYING; kind <= TOLD; kind++) {
            x.keep(0, 1, kind, 3);
            x.by(0, 0, 7, 0);
        }
        due("the heap is as it was", x.count(3), 8);
        due("the row is not laid", x.rowOf(0, 1), 0);
        due("the laying stays", x.toil(0), 4);
    }

    private static void refusals() {
        SlateRows x = Check.withRoof("w10 8 1;r20;r20;");
        x.keep(0, 1, LAYING, 0);
        due("by(2, ..)", x.by(2, 0, 0, 0), -1);
        due("by(-1, ..)", x.by(-1, 0, 0, 0), -1);
        due("by(.., 8, ..)", x.by(0, 8, 0, 0), -1);
        due("by(.., -1, ..)", x.by(0, -1, 0, 0), -1);
        due("by(.., 3)", x.by(0, 0, 0, 3), -1);
        due("by(.., -1)", x.by(0, 0, 0, -1), -1);
        due("nothing", x.by(0, 1, 0, 0), -11);
        x.row(1, 0, 3);
        due("no laying", x.by(0, 1, 0, 0), -12);
        Check.lay(x, 0, 0, 0);
        due("laid", x.by(0, 0, 0, 0), -3);
        due("laid ahead of nothing", x.by(0, 2, 0, 0), -3);
        due("laid ahead of no laying", x.by(0, 1, 0, 0), -3);
        due("-1 ahead of laid", x.by(0, 0, 0, 3), -1);
    }
}
