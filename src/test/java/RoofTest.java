/** Promises 1 to 6: the new object, roofs. */
public final class RoofTest {
    private static final Check CHECK = new Check();

    public static void main(String[] args) {
        newObject();
        theLastCall();
        roofsThatAreWell();
        faultsOfTheFirstKind();
        faultsOfTheSecondKind();
        faultsChangeNothing();
        refusalsOfRoof();
        widths();
        heaps();
        laps();
        rows();
        CHECK.finish("RoofTest");
    }

    private static void due(String call, long got, long want) {
        CHECK.due(call, got, want);
    }

    private static void roof(String text, int want) {
        due("2: roof " + text, Check.roof(new SlateRows(), text), want);
    }

    private static void newObject() {
        SlateRows x = new SlateRows();
        due("1: count(0)", x.count(0), 0);
        due("1: count(1)", x.count(1), 0);
        due("1: count(2)", x.count(2), 3);
        due("1: count(3)", x.count(3), 0);
        due("1: count(4)", x.count(4), 0);
        due("1: count(5)", x.count(5), 0);
        due("1: width(0, 0)", x.width(0, 0), -1);
        due("1: rowOf(0, 0)", x.rowOf(0, 0), -1);
        due("1: fills(0)", x.fills(0), -1);
        due("1: restore()", x.restore(), -3);
        due("1: image()", x.image(), 0);
        for (int d = 0; d < 8; d++) {
            due("1: toss(" + d + ")", x.toss(d), -11);
        }
    }

    /** An object may be called 512 times: the last of them answers as the first did. */
    private static void theLastCall() {
        SlateRows x = new SlateRows();
        for (int call = 1; call <= 511; call++) {
            due("1: call " + call, x.lap(call % 21), call == 1 ? 3 : (call - 1) % 21);
        }
        due("1: call 512", x.lap(0), 511 % 21);
    }

    private static void roofsThatAreWell() {
        SlateRows x = new SlateRows();
        due("2: one of each", Check.roof(x, "w5 4 2;r24;l2;"), 3);
        due("2: width(0, 0)", x.width(0, 0), 5);
        due("2: width(0, 1)", x.width(0, 1), 4);
        due("2: width(0, 2)", x.width(0, 2), 2);
        due("2: rowOf(0, 0)", x.rowOf(0, 0), 24);
        due("2: count(2)", x.count(2), 2);
        due("2: more comes to what there is", Check.roof(x, "r30;w30 12 99;"), 2);
        due("2: count(0)", x.count(0), 2);
        due("2: count(1)", x.count(1), 2);
        due("2: width(1, 0)", x.width(1, 0), 30);
        due("2: width(1, 2)", x.width(1, 2), 99);
        due("2: rowOf(1, 0)", x.rowOf(1, 0), 30);
        due("2: the lap stays", x.count(2), 2);
        due("2: the text stays", x.element(7, 0), 'r');
        roof("w5 0 0;w30 12 99;w6 1 10;w29 9 9;r10;r60;r11;r59;r20;r30;l0;l20;", 12);
        roof("l0;", 1);
        roof("l1;l2;l3;l4;l5;l6;l7;l8;l9;l1;l1;l2;l3;l4;l5;l6;l7;l8;l9;l1;l1;l2;l3;l4;l5;l6;l7;l8;l9;l1;l1;l2;l20;", 33);
        SlateRows last = new SlateRows();
        Check.roof(last, "l7;l0;l19;");
        due("2: the last lap is it", last.count(2), 19);
        SlateRows bits = new SlateRows();
        Check.numbers(bits, 0, 0, 'r' + 256, '1' - 256, '2' + 512, ';');
        due("2: bytes by their lowest bits", bits.roof(0), 1);
        SlateRows again = new SlateRows();
        Check.numbers(again, 0, 0, 'r', '1', '0', ';');
        for (int n = 1; n <= 6; n++) {
            due("2: the row read once more", again.roof(0), 1);
            due("2: one row more", again.count(1), n);
        }
        due("2: a seventh has no room", again.roof(0), -2000);
    }

    private static void faultsOfTheFirstKind() {
        roof("", -1000);
        roof("w", -1001);
        roof("w5", -1002);
        roof("w5 ", -1003);
        roof("w5 1", -1004);
        roof("w5 12", -1005);
        roof("w5 12 ", -1006);
        roof("w5 12 9", -1007);
        roof("r", -1001);
        roof("r1", -1002);
        roof("r12", -1003);
        roof("r12;l", -1005);
        roof("x", -1000);
        roof("W5 1 1;", -1000);
        roof(" r12;", -1000);
        roof(";", -1000);
        roof("r12; l3;", -1004);
        roof("r12;;", -1004);
        roof("r;", -1001);
        roof("r-1;", -1001);
        roof("r012;", -1002);
        roof("r00;", -1002);
        roof("l00;", -1002);
        roof("r120;", -1003);
        roof("r12 ;", -1003);
        roof("w05 1 1;", -1002);
        roof("w5  1 1;", -1003);
        roof("w5 01 1;", -1004);
        roof("w5 1 01;", -1006);
        roof("w5 1;", -1004);
        roof("w5 1 1 1;", -1006);
        roof("w5;", -1002);
        roof("w5 1 100;", -1007);
        roof("w4 1 1;x", -1007);
        roof("w4 1 1;r9;l21", -1013);
        SlateRows x = new SlateRows();
        x.row(0, 0, 5);
        for (int i = 0; i < 4; i++) {
            x.put(0, i, "r12;".charAt(i));
        }
        due("2: a 0 at the end", x.roof(0), -1004);
        x.put(0, 4, 'r' + 128);
        due("2: a byte below 0", x.roof(0), -1004);
        x.row(0, 0, 0);
        due("2: no byte", x.roof(0), -1000);
    }

    private static void faultsOfTheSecondKind() {
        roof("w4 1 1;", -2000);
        roof("w0 1 1;", -2000);
        roof("w31 1 1;", -2000);
        roof("w5 13 1;", -2000);
        roof("r9;", -2000);
        roof("r0;", -2000);
        roof("r61;", -2000);
        roof("l21;", -2000);
        roof("r12;l99;r9;", -2004);
        roof("w5 1 1;w5 2 2;", -2007);
        roof("w5 1 1;w6 1 1;w7 1 1;w8 1 1;w9 1 1;", -2028);
        roof("r10;r10;r10;r10;r10;r10;r10;", -2024);
        roof("w4 1 1;w5 1 1;w5 1 1;", -2000);
        SlateRows x = Check.withRoof("w5 1 1;w6 1 1;w7 1 1;r10;r10;r10;r10;r10;");
        due("2: a width that there is", Check.roof(x, "l4;w6 1 1;"), -2003);
        due("2: one too many", Check.roof(x, "w8 1 1;w9 1 1;"), -2007);
        due("2: a row too many", Check.roof(x, "r20;l4;r20;"), -2007);
    }

    private static void faultsChangeNothing() {
        SlateRows x = Check.withRoof("w5 1 1;r10;l4;");
        due("2: second kind", Check.roof(x, "w6 1 1;r20;l5;r9;"), -2014);
        due("2: first kind", Check.roof(x, "w6 1 1;r20;l5;r9"), -1016);
        due("2: count(0)", x.count(0), 1);
        due("2: count(1)", x.count(1), 1);
        due("2: count(2)", x.count(2), 4);
    }

    private static void refusalsOfRoof() {
        SlateRows x = new SlateRows();
        due("2: roof(-1)", x.roof(-1), -1);
        due("2: roof(8)", x.roof(8), -1);
        due("2: roof(0)", x.roof(0), -11);
        x.keep(0, 1, 0, 0);
        due("2: roof of a laying", x.roof(0), -12);
        Check.numbers(x, 0, 1, 'r', '1', '2', ';');
        due("2: roof of shorts", x.roof(0), -12);
        Check.numbers(x, 0, 2, 'r', '1', '2', ';');
        due("2: roof of ints", x.roof(0), -12);
        x.keep(0, 0, 0, 0);
        due("2: roof of nothing", x.roof(0), -11);
    }

    private static void widths() {
        SlateRows x = Check.withRoof("w5 12 99;w30 0 0;");
        due("3: width(0, 0)", x.width(0, 0), 5);
        due("3: width(0, 1)", x.width(0, 1), 12);
        due("3: width(0, 2)", x.width(0, 2), 99);
        due("3: width(1, 0)", x.width(1, 0), 30);
        due("3: width(1, 1)", x.width(1, 1), 0);
        due("3: width(1, 2)", x.width(1, 2), 0);
        due("3: width(0, 3)", x.width(0, 3), -1);
        due("3: width(0, -1)", x.width(0, -1), -1);
        due("3: width(2, 0)", x.width(2, 0), -1);
        due("3: width(-1, 0)", x.width(-1, 0), -1);
        due("3: width(4, 0)", x.width(4, 0), -1);
    }

    private static void heaps() {
        SlateRows x = Check.withRoof("w5 3 2;w7 4 3;");
        due("4: heap(0, 12)", x.heap(0, 12), 3);
        due("4: heap(0, 0)", x.heap(0, 0), 12);
        due("4: heap(0, 13)", x.heap(0, 13), -1);
        due("4: heap(0, -1)", x.heap(0, -1), -1);
        due("4: heap(2, 1)", x.heap(2, 1), -1);
        due("4: heap(-1, 1)", x.heap(-1, 1), -1);
        due("4: width(0, 1)", x.width(0, 1), 0);
        due("4: width(1, 1)", x.width(1, 1), 4);
    }

    private static void laps() {
        SlateRows x = new SlateRows();
        due("5: lap(0)", x.lap(0), 3);
        due("5: lap(20)", x.lap(20), 0);
        due("5: lap(21)", x.lap(21), -1);
        due("5: lap(-1)", x.lap(-1), -1);
        due("5: count(2)", x.count(2), 20);
    }

    private static void rows() {
        SlateRows x = Check.withRoof("w10 4 1;r12;r20;");
        due("6: rowOf(0, 0)", x.rowOf(0, 0), 12);
        due("6: rowOf(1, 0)", x.rowOf(1, 0), 20);
        due("6: rowOf(0, 1)", x.rowOf(0, 1), 0);
        due("6: rowOf(0, 2)", x.rowOf(0, 2), 0);
        Check.lay(x, 0, 0, 0);
        due("6: rowOf(0, 1) laid", x.rowOf(0, 1), 2);
        due("6: rowOf(0, 2) laid", x.rowOf(0, 2), 8);
        due("6: rowOf(0, 0) laid", x.rowOf(0, 0), 12);
        due("6: rowOf(1, 1)", x.rowOf(1, 1), 0);
        due("6: rowOf(0, 3)", x.rowOf(0, 3), -1);
        due("6: rowOf(0, -1)", x.rowOf(0, -1), -1);
        due("6: rowOf(2, 0)", x.rowOf(2, 0), -1);
        due("6: rowOf(-1, 0)", x.rowOf(-1, 0), -1);
    }
}
