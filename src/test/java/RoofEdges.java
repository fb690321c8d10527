/** Edges of promises 1 to 6: the new object, roofs. */
final class RoofEdges {
    private final Edges edges;

    RoofEdges(Edges edges) {
        this.edges = edges;
    }

    void all() {
        newObject();
        widthsOfARoof();
        rowsAndLapOfARoof();
        statements();
        numbers();
        faultsOfTheFirstKind();
        faultsOfTheSecondKind();
        whichFault();
        allOrNothing();
        refusalsOfRoof();
        width();
        heap();
        lap();
        rowOf();
    }

    private static String times(int n, String text) {
        return text.repeat(n);
    }

    private static String roof(String text, int answer) {
        return "roof(\"" + text + "\") = " + answer;
    }

    private void newObject() {
        edges.says(1, "No WIDTHS, ROWS.");
        edges.run("count(0) = 0", "count(1) = 0", "count(3..) = 0 0 0", "width(0, 0) = -1", "rowOf(0, 0) = -1", "image() = 0");
        edges.run("heap(0, 0) = -1", "slate(0, 0) = -1", "joint(0, 0) = -1", "may(0, 1) = -1", "judge(0, [0]) = -1",
            "lay(0, [0]) = -1", "takeUp(0) = -1", "gaps(0) = -1", "two(0, 2) = -1", "broken(0, 0) = -1",
            "by(0, <0 0>, 0, 0) = -1");
        edges.run("fills(0) = -1", "first(0, 0) = -1", "best(0, -1) = -1", "cuts(0, -1) = -1", "uses(0, 0) = -1",
            "needs(0, 0) = -1", "ends(0, 0) = -1", "all(0) = 0", "all(1) = 0");
    }

    private void widthsOfARoof() {
        edges.says(2, "3 as they come");
        edges.run(roof("w8 1 1;w7 2 2;w6 3 3;", 3), roof("w5 4 4;", 1), "width(0.., 0) = 8 7 6 5 -1", "count(0) = 4",
            roof("w9 1 1;", -2000), "count(0) = 4");
        edges.run(roof("w5 1 1;w6 1 1;w7 1 1;w8 1 1;w9 1 1;", -2028), "count(0) = 0");
        edges.says(2, "INCHES (5 .. 30)");
        edges.run(roof("w4 1 1;", -2000), roof("w5 1 1;", 1), roof("w31 1 1;", -2000), roof("w30 1 1;", 1),
            roof("w0 1 1;", -2000), roof("w99 1 1;", -2000), "width(0.., 0) = 5 30 -1");
        edges.says(2, "MANY (0 .. 12 in the heap)");
        edges.run(roof("w5 13 1;", -2000), roof("w5 12 1;", 1), roof("w6 0 1;", 1), roof("w7 99 1;", -2000),
            "width(0.., 1) = 12 0 -1");
        edges.says(2, "a WORTH (0 .. 99).");
        edges.run(roof("w5 1 100;", -1007), roof("w5 1 99;", 1), roof("w6 1 0;", 1), "width(0.., 2) = 99 0 -1");
    }

    private void rowsAndLapOfARoof() {
        edges.says(2, "ROWS 0 .. 5 as they come (from below)");
        edges.run(roof("r10;r11;r12;r13;r14;", 5), roof("r15;", 1), "rowOf(0.., 0) = 10 11 12 13 14 15 -1", roof("r16;", -2000),
            "count(1) = 6");
        edges.run(roof("r10;r10;r10;r10;r10;r10;r10;", -2024), "count(1) = 0");
        edges.run(roof("w5 9 1;r10;r10;r10;", 4), "lay(1, [0 0]) = 0", "may(0.., 5) = 1 1 0");
        edges.says(2, "a LENGTH (10 .. 60).");
        edges.run(roof("r9;", -2000), roof("r10;", 1), roof("r61;", -2000), roof("r60;", 1), roof("r0;", -2000),
            roof("r99;", -2000), "rowOf(0.., 0) = 10 60 -1");
        edges.says(2, "LAP (0 .. 20; 3 at first).");
        edges.run("count(2) = 3", roof("l21;", -2000), "count(2) = 3", roof("l20;", 1), "count(2) = 20", roof("l0;", 1),
            "count(2) = 0", roof("l99;", -2000), "count(2) = 0");
    }

    private void statements() {
        edges.says(2, "The text in SHELF d: how many STATEMENTS");
        edges.run(roof("l0;", 1), roof("l0;l1;", 2), roof("w5 0 0;r10;l20;", 3));
        edges.run("roof(0:\"l0;\") = 1", "roof(6:\"l1;l2;\") = 2", "roof(0) = 1", "count(2) = 0");
        edges.run(roof(times(33, "l0;"), 33));
        edges.run(roof("l19;" + times(32, "l0;"), 33));
        edges.says(2, "A ROOF is read from bytes: STATEMENTS, each with ; behind");
        edges.run(roof("l0", -1002), roof("l0;l1", -1005), roof("l0l1;", -1002), roof("l0;;", -1003), roof(";l0;", -1000),
            roof("l0 ;", -1002), roof("l0; l1;", -1003), roof("l0;l1;", 2));
        edges.says(2, "w, INCHES, a blank, MANY, a blank, WORTH: a WIDTH more");
        edges.run(roof("w 5 1 1;", -1001), roof("w5;", -1002), roof("w5  1 1;", -1003), roof("w5 1;", -1004),
            roof("w5 1  1;", -1005), roof("w5 1 1 ;", -1006), roof("w5 1 1 1;", -1006), roof("W5 1 1;", -1000),
            roof("w5;1 1;", -1002), roof("w5 1;1;", -1004), roof("w5 2 3;", 1), "width(0, 0..) = 5 2 3 -1");
        edges.says(2, "r and LENGTH: a ROW more");
        edges.run(roof("r 10;", -1001), roof("r10 ;", -1003), roof("r10 1;", -1003), roof("R10;", -1000), roof("r10;", 1),
            "count(1) = 1", "rowOf(0, 0) = 10");
        edges.says(2, "l and LAP.");
        edges.run(roof("l 1;", -1001), roof("l1 ;", -1002), roof("l1 1;", -1002), roof("L1;", -1000), roof("l1;", 1),
            "count(2) = 1");
        // the letters next to the three
        edges.run(roof("k1;", -1000), roof("m1;", -1000), roof("q10;", -1000), roof("s10;", -1000), roof("v5 1 1;", -1000),
            roof("x5 1 1;", -1000));
    }

    private void numbers() {
        edges.says(2, "NUMBERS have 1 or 2 digits");
        edges.run(roof("w 1 1;", -1001), roof("w100 1 1;", -1003), roof("w9 1 1;", 1), roof("w10 1 1;", 1));
        edges.run(roof("w5  1;", -1003), roof("w5 100 1;", -1005), roof("w5 9 1;", 1), roof("w6 10 1;", 1));
        edges.run(roof("w5 1 ;", -1005), roof("w5 1 100;", -1007), roof("w5 1 9;", 1), roof("w6 1 10;", 1));
        edges.run(roof("r;", -1001), roof("r100;", -1003), roof("r9;", -2000), roof("r10;", 1));
        edges.run(roof("l;", -1001), roof("l100;", -1003), roof("l9;", 1), roof("l10;", 1), "count(2) = 10");
        // the signs next to the digits, and those that other numbers have
        edges.run(roof("l/;", -1001), roof("l:;", -1001), roof("l1/;", -1002), roof("l1:;", -1002), roof("l-1;", -1001),
            roof("l+1;", -1001));
        edges.says(2, "no 0 ahead of another.");
        edges.run(roof("w05 1 1;", -1002), roof("w5 01 1;", -1004), roof("w5 1 01;", -1006), roof("w5 00 1;", -1004),
            roof("r010;", -1002), roof("l03;", -1002), roof("l00;", -1002), roof("l0;", 1), roof("w20 10 0;", 1),
            roof("w30 0 90;", 1));
        edges.says(2, "At least one STATEMENT.");
        edges.run(roof("", -1000), "count(0..) = 0 0 3");
    }

    private void faultsOfTheFirstKind() {
        edges.says(2, "FAULT: kind 1 the place of the first byte with which no ROOF can go on");
        edges.run(roof("x", -1000), roof("lx", -1001), roof("l0x", -1002), roof("l0;x", -1003), roof("l0;xx;x", -1003));
        edges.run(roof(times(33, "l0;") + "x", -1099));
        edges.run(roof(times(32, "l0;") + "l0x;", -1098));
        edges.run("roof([108 48 59 0]b) = -1003", "roof([108 48 59 -20]b) = -1003", "roof([108 48 59 128]b) = -1003",
            "roof([236]b) = -1000", "roof([364 304 315]b) = 1", "count(2) = 0");
        edges.says(2, "(the size, if it ends too early)");
        String text = "w10 12 99;r60;l20;";
        int ended = 0;
        for (int size = 0; size <= text.length(); size++) {
            boolean isEnd = size > 0 && text.charAt(size - 1) == ';';
            ended += isEnd ? 1 : 0;
            edges.run(roof(text.substring(0, size), isEnd ? ended : -1000 - size));
        }
        edges.run(roof(times(33, "l0;") + "l", -1100));
        edges.run(roof(times(32, "l0;") + "l0", -1098));
    }

    private void faultsOfTheSecondKind() {
        edges.says(2, "else kind 2 the place of the letter of the first STATEMENT that isn't as told");
        edges.run(roof("r9;", -2000), roof("l0;r9;", -2003), roof("l0;r10;l21;r9;", -2007), roof("r9;l21;", -2000),
            "count(1) = 0");
        edges.run(roof(times(32, "l0;") + "r9;", -2096));
        edges.run(roof("l10;" + times(31, "l0;") + "r9;", -2097));
        edges.says(2, "(a number out of range, no room, two WIDTHS of one INCHES)");
        edges.run(roof("w31 1 1;", -2000), roof("w5 13 1;", -2000), roof("r61;", -2000), roof("l21;", -2000));
        edges.run(roof("w5 1 1;w6 1 1;w7 1 1;w8 1 1;", 4), roof("l1;w9 1 1;", -2003), "count(2) = 3");
        edges.run(roof(times(6, "r10;"), 6), roof("l1;r10;", -2003), "count(2) = 3");
        edges.run(roof("w5 1 1;w5 2 2;", -2007), roof("w5 1 1;w6 1 1;w5 0 0;", -2014), roof("w5 1 1;w6 1 1;", 2),
            roof("w6 2 3;", -2000), roof("w5 1 1;", -2000), roof("w7 1 1;", 1), "width(0.., 1) = 1 1 1 -1");
        // rows of one length, laps alike, widths alike in all but inches
        edges.run(roof("r10;r10;l3;l3;w5 1 1;w6 1 1;", 6));
        edges.says(2, ": -1000 times the kind less the place.");
        edges.run(roof("l", -1001), roof("l0;l", -1004), roof("r9;", -2000), roof("l0;r9;", -2003));
    }

    private void whichFault() {
        edges.says(2, "kind 1 (of any place) goes ahead of kind 2");
        edges.run(roof("r9;x", -1003), roof("r9;l0", -1005), roof("w5 13 1;w5 1 1;r60;l", -1020), roof("l0;r9;l100;", -1009));
        edges.run(roof("r9;" + times(32, "l0;") + "x", -1099));
        edges.run(roof("r10;r10;r10;r10;r10;r10;r10;;", -1028));
        edges.says(2,
            "STATEMENTS are tried one behind the other, each on what those ahead of it made, and the first that can't be done so is told.");
        edges.run(roof("w5 1 1;w6 1 1;w7 1 1;", 3), roof("w8 1 1;w9 1 1;", -2007), roof("w9 1 1;", 1), "width(3, 0) = 9");
        edges.run(roof(times(5, "r10;"), 5), roof("r11;r12;l1;", -2004), roof("r12;l1;", 2), "rowOf(5, 0) = 12");
        edges.run(roof("w5 1 1;w5 1 1;r9;", -2007), roof("r9;w5 1 1;w5 1 1;", -2000));
        edges.run(roof("l7;l20;l0;l5;", 4), "count(2) = 5");
    }

    private void allOrNothing() {
        edges.says(2, "Without FAULT all of it comes (to what there is)");
        edges.run(roof("w5 9 2;r10;l2;", 3), "lay(0, [0 0]) = 0", roof("r20;w6 3 4;", 2), "count(0..) = 2 2 2 10 1 26",
            "slate(0, 0..) = 0 0 -4", "width(0.., 1) = 7 3 -1", "rowOf(0.., 0) = 10 20 -1", "rowOf(1, 1) = 0", "may(1, 5) = 0");
        edges.says(2, "with one nothing.");
        edges.run(roof("w5 9 2;r10;l2;", 3), roof("w6 1 1;r11;l4;r9;", -2014), "count(0..) = 1 1 2 9",
            roof("w6 1 1;r11;l4;r10", -1017), "count(0..) = 1 1 2 9", roof("w6 1 1;r11;l4;", 3), "count(0..) = 2 2 4 10");
        edges.says(2, "The ROW that is read, and what is taken from a SHELF, stay there");
        edges.run("roof(0:\"r10;\") = 1", "element(0, 0..) = 114 49 48 59 throws.IllegalStateException",
            "roof(0) = 1 1 1 1 1 -2000", "count(1) = 6", "element(0, 3) = 59");
    }

    private void refusalsOfRoof() {
        edges.says(2, "the FAULT. -1, -11, -12 (no ROW of bytes).");
        edges.run("roof(-1) = -1", "roof(8) = -1", "roof(MIN) = -1", "roof(MAX) = -1", "roof(0) = -11", "roof(7) = -11");
        edges.run("roof(<0 0>) = -12", "roof([108 48 59]s) = -12", "roof([108 48 59]) = -12", "roof([]s) = -12", "roof([]) = -12",
            "roof([]b) = -1000", "roof([108 48 59]b) = 1", "count(2) = 0");
    }

    private void width() {
        edges.says(3, "Of a WIDTH: 0 INCHES, 1 MANY, 2 WORTH.");
        edges.run(roof("w5 12 99;w30 0 0;", 2), "width(0, 0..) = 5 12 99", "width(1, 0..) = 30 0 0");
        edges.says(3, "-1.");
        edges.run("width(0, 0) = -1", roof("w5 12 99;w30 0 0;", 2), "width(0, -1) = -1", "width(0, 3) = -1", "width(-1, 0) = -1",
            "width(2, 0) = -1", "width(0, MIN) = -1", "width(0, MAX) = -1", "width(MIN, 0) = -1", "width(MAX, 0) = -1");
        edges.run(roof("w5 1 1;w6 1 1;w7 1 1;w8 1 1;", 4), "width(3, 0..) = 8 1 1 -1", "width(4, 0) = -1");
    }

    private void heap() {
        edges.says(4, "MANY of a WIDTH: what it was.");
        edges.run(roof("w5 3 1;w6 4 1;", 2), "heap(0, 12) = 3", "heap(0, 0) = 12", "heap(0, 1) = 0", "heap(0, 1) = 1",
            "width(0.., 1) = 1 4 -1");
        edges.says(4, "MANY (0 .. 12 in the heap)");
        edges.run(roof("w5 3 1;", 1), "heap(0, 13) = -1", "width(0, 1) = 3", "heap(0, 12) = 3", "heap(0, -1) = -1",
            "heap(0, 0) = 12", "heap(0, MIN) = -1", "heap(0, MAX) = -1", "width(0, 1) = 0");
        edges.says(4, "-1.");
        edges.run("heap(0, 1) = -1", roof("w5 3 1;w6 4 1;w7 5 1;w8 6 1;", 4), "heap(-1, 1) = -1", "heap(4, 1) = -1",
            "heap(3, 1) = 6", "heap(MIN, 1) = -1", "heap(MAX, 1) = -1", "width(0.., 1) = 3 4 5 1");
    }

    private void lap() {
        edges.says(5, "LAP: what it was.");
        edges.run("lap(0) = 3", "lap(20) = 0", "lap(20) = 20", "lap(1) = 20", "count(2) = 1");
        edges.says(5, "LAP (0 .. 20; 3 at first)");
        edges.run("count(2) = 3", "lap(21) = -1", "count(2) = 3", "lap(20) = 3", "lap(-1) = -1", "lap(0) = 20", "count(2) = 0");
        edges.says(5, "-1.");
        edges.run("lap(-1) = -1", "lap(21) = -1", "lap(MIN) = -1", "lap(MAX) = -1", "count(2) = 3");
    }

    private void rowOf() {
        edges.says(6, "Of a ROW: 0 LENGTH, 1 how many slates are laid (0: none), 2 by how much it is CUT.");
        edges.run(roof("w5 12 1;w6 1 1;r10;r60;r11;", 5), "rowOf(0, 0..) = 10 0 0", "lay(0, [0 0]) = 0", "rowOf(0, 0..) = 10 2 0",
            "lay(2, [0 1]) = 0", "rowOf(2, 0..) = 11 2 0", "takeUp(2) = 2", "lay(2, [1 0]) = 0", "takeUp(2) = 2",
            "rowOf(2, 0..) = 11 0 0");
        edges.run(roof("w5 12 1;w30 1 1;r10;r60;r54;", 5), "lay(0, [1]) = 20", "rowOf(0, 0..) = 10 1 20", "takeUp(0) = 0",
            "rowOf(0, 0..) = 10 0 0", "lay(1, [0 0 0 0 0 0 0 0 0 0 0 0]) = 0", "rowOf(1, 0..) = 60 12 0");
        edges.run(roof("w5 12 1;w6 1 1;r54;", 3), "lay(0, [0 0 0 0 0 0 0 0 0 0 0]) = 1", "rowOf(0, 0..) = 54 11 1");
        edges.says(6, "A ROW is laid or not (at first not)");
        edges.run(roof("w5 9 1;r10;", 2), "image() = 1", roof("r20;", 1), "lay(1, [0 0 0 0]) = 0", "restore() = 1",
            roof("r15;", 1), "rowOf(1, 0..) = 15 0 0", "slate(1, 0) = -4", "joint(1, 0) = -4", "count(4) = 0", "takeUp(1) = -3");
        edges.says(6, "-1.");
        edges.run("rowOf(0, 0) = -1", roof(times(6, "r10;"), 6), "rowOf(0, -1) = -1", "rowOf(0, 3) = -1", "rowOf(-1, 0) = -1",
            "rowOf(5, 0) = 10", "rowOf(6, 0) = -1", "rowOf(0, MIN) = -1", "rowOf(0, MAX) = -1", "rowOf(MIN, 0) = -1",
            "rowOf(MAX, 0) = -1");
    }
}
