/** Promises 25 to 27: the image, what is told. */
public final class ImageTest {
    private static final Check CHECK = new Check();

    public static void main(String[] args) {
        taken();
        shelvesStay();
        emptyImage();
        counted();
        CHECK.finish("ImageTest");
    }

    private static void due(String call, long got, long want) {
        CHECK.due(call, got, want);
    }

    private static void taken() {
        SlateRows x = Check.withRoof("w10 6 2;r20;r30;l4;");
        due("26: there is none", x.restore(), -3);
        Check.lay(x, 0, 0, 0);
        due("25: image()", x.image(), 2);
        Check.roof(x, "w5 3 1;r12;r13;l7;");
        x.takeUp(0);
        Check.lay(x, 1, 0, 0, 0);
        x.heap(0, 11);
        due("26: restore()", x.restore(), 2);
        due("26: widths", x.count(0), 1);
        due("26: rows", x.count(1), 2);
        due("26: lap", x.count(2), 4);
        due("26: heap", x.width(0, 1), 4);
        due("26: laid", x.rowOf(0, 1), 2);
        due("26: its slates", x.slate(0, 1), 0);
        due("26: its joints", x.joint(0, 0), 10);
        due("26: not laid", x.rowOf(1, 1), 0);
        due("26: no such width", x.width(1, 0), -1);
        x.lap(9);
        x.takeUp(0);
        due("26: once more", x.restore(), 2);
        due("26: lap again", x.count(2), 4);
        due("26: laid again", x.rowOf(0, 1), 2);
        Check.roof(x, "r40;");
        due("26: what comes then is not laid", x.rowOf(2, 1), 0);
        due("25: a later image", x.image(), 3);
        x.lap(0);
        due("26: is restored", x.restore(), 3);
        due("26: rows of the later one", x.rowOf(2, 0), 40);
    }

    private static void shelvesStay() {
        SlateRows x = Check.withRoof("w10 6 2;r20;");
        x.keep(0, 1, 1, 5);
        x.image();
        x.keep(0, 1, 1, 6);
        Check.numbers(x, 1, 1, 77);
        x.restore();
        due("26: a laying stays", x.toil(0), 8);
        due("26: numbers stay", x.element(1, 0), 77);
    }

    private static void emptyImage() {
        SlateRows x = new SlateRows();
        due("25: no rows", x.image(), 0);
        Check.roof(x, "w10 6 2;r20;r30;");
        Check.lay(x, 1, 0, 0, 0);
        due("26: no rows", x.restore(), 0);
        due("26: no widths", x.count(0), 0);
        due("26: heap", x.count(3), 0);
        due("26: row is gone", x.fills(1), -1);
        Check.roof(x, "w15 6 2;r30;r45;");
        due("26: new rows are not laid", x.count(4), 0);
        due("26: new rows are looked at anew", x.fills(1), 1);
    }

    private static void counted() {
        SlateRows x = Check.withRoof("w5 4 2;w7 4 9;w9 3 4;r24;r26;r24;l2;");
        due("27: widths", x.count(0), 3);
        due("27: rows", x.count(1), 3);
        due("27: lap", x.count(2), 2);
        due("27: slates", x.count(3), 11);
        due("27: laid", x.count(4), 0);
        due("27: worth", x.count(5), 56);
        Check.lay(x, 0, 0, 0, 1, 1);
        Check.lay(x, 2, 2, 2, 2);
        due("27: slates", x.count(3), 4);
        due("27: laid", x.count(4), 2);
        due("27: worth", x.count(5), 22);
        SlateRows most = Check.withRoof("w10 12 99;w11 12 99;w12 12 99;w13 12 99;r10;r10;r10;r10;r10;r10;");
        due("27: the most slates", most.count(3), 48);
        due("27: the most worth", most.count(5), 48 * 99);
        for (int row = 0; row < 6; row++) {
            Check.lay(most, row, 0);
            due("27: rows of one slate", most.count(4), row + 1);
        }
        due("27: count(6)", x.count(6), -1);
        due("27: count(-1)", x.count(-1), -1);
        due("27: count(far)", x.count(Integer.MAX_VALUE), -1);
    }
}
