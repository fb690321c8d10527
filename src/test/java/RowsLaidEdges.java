/** Edges of promises 7 to 12: rows laid. */
final class RowsLaidEdges {
    private static final String TWELVE = "[0 0 0 0 0 0 0 0 0 0 0 0]";
    private static final String THIRTEEN = "[0 0 0 0 0 0 0 0 0 0 0 0 0]";

    private final Edges edges;

    RowsLaidEdges(Edges edges) {
        this.edges = edges;
    }

    void all() {
        slate();
        joint();
        may();
        judgedSlates();
        judgedAtTheEnd();
        judgedOfSeveral();
        refusalsOfJudge();
        laid();
        cut();
        refusalsOfLay();
        takenUp();
        refusalsOfTakeUp();
    }

    private void slate() {
        edges.says(7, "The WIDTH of the i-th slate of a laid ROW");
        edges.run("roof(\"w5 12 1;w6 1 1;r16;r60;\") = 4", "lay(0, [0 1 0]) = 0", "slate(0, 0..) = 0 1 0");
        edges.run("roof(\"w5 1 1;w6 1 1;w7 1 1;w8 1 1;r26;\") = 5", "lay(0, [3 2 1 0]) = 0", "slate(0, 0..) = 3 2 1 0 -4");
        edges.says(7, "-4: not so many, not laid.");
        edges.run("roof(\"w5 12 1;r10;r60;\") = 3", "slate(0, 0) = -4", "lay(0, [0 0]) = 0", "slate(0, 1..) = 0 -4 -4",
            "slate(0, MAX) = -4", "slate(1, 0) = -4", "takeUp(0) = 2", "slate(0, 0) = -4", "slate(0, 1) = -4");
        edges.run("roof(\"w5 12 1;r60;\") = 2", "lay(0, " + TWELVE + ") = 0", "slate(0, 11..) = 0 -4");
        edges.says(7, "-1 (i below 0, too).");
        edges.run("roof(\"w5 12 1;r10;r60;\") = 3", "lay(0, [0 0]) = 0", "slate(0, -1) = -1", "slate(0, MIN) = -1",
            "slate(1, -1) = -1", "slate(-1, 0) = -1", "slate(2, 0) = -1", "slate(6, 0) = -1", "slate(MIN, 0) = -1",
            "slate(MAX, 0) = -1");
    }

    private void joint() {
        edges.says(8, "The i-th JOINT of a laid ROW");
        edges.run("roof(\"w5 12 1;w6 1 1;r16;r60;\") = 4", "lay(0, [0 1 0]) = 0", "joint(0, 0..) = 5 11 -4");
        edges.run("roof(\"w5 12 1;r60;\") = 2", "lay(0, " + TWELVE + ") = 0",
            "joint(0, 0..) = 5 10 15 20 25 30 35 40 45 50 55 -4");
        edges.says(8, "JOINTS of a laid ROW: where a slate ends, but at its LENGTH or beyond.");
        edges.run("roof(\"w10 1 1;r10;\") = 2", "lay(0, [0]) = 0", "joint(0, 0) = -4");
        edges.run("roof(\"w30 1 1;r10;\") = 2", "lay(0, [0]) = 20", "joint(0, 0) = -4");
        edges.run("roof(\"w9 2 1;r10;\") = 2", "lay(0, [0 0]) = 8", "joint(0, 0..) = 9 -4");
        edges.run("roof(\"w9 2 1;w5 1 1;r14;r15;\") = 4", "lay(0, [0 1]) = 0", "joint(0, 0..) = 9 -4");
        edges.says(8, "-4: not so many, not laid.");
        edges.run("roof(\"w5 12 1;r15;r60;\") = 3", "joint(0, 0) = -4", "lay(0, [0 0 0]) = 0", "joint(0, 1..) = 10 -4 -4",
            "joint(0, MAX) = -4", "joint(1, 0) = -4", "takeUp(0) = 3", "joint(0, 0) = -4");
        edges.says(8, "-1 (i below 0, too).");
        edges.run("roof(\"w5 12 1;r10;r60;\") = 3", "lay(0, [0 0]) = 0", "joint(0, -1) = -1", "joint(0, MIN) = -1",
            "joint(1, -1) = -1", "joint(-1, 0) = -1", "joint(2, 0) = -1", "joint(6, 0) = -1", "joint(MIN, 0) = -1",
            "joint(MAX, 0) = -1");
    }

    private void may() {
        edges.says(9, "Whether a JOINT may be at x (1 .. LENGTH less 1) of a ROW: 1, 0.");
        edges.run("roof(\"r10;r60;\") = 2", "may(0, 0..) = -1 1 1 1 1 1 1 1 1 1 -1", "may(1, 0..) = -1 1",
            "may(1, 58..) = 1 1 -1");
        edges.says(9, "A JOINT may be at x, if it is LAP or more from each JOINT of the ROW below");
        edges.run("roof(\"w10 9 1;r30;r40;\") = 3", "lay(0, [0 0 0]) = 0", "may(1, 6..) = 1 1 0 0 0 0 0 1 1 1 1 1 0 0 0 0 0 1 1",
            "may(1, 28..) = 1 1 1 1 1", "lap(1) = 3", "may(1, 9..) = 1 0 1", "lap(0) = 1", "may(1, 9..) = 1 1 1");
        edges.run("roof(\"w20 9 1;r40;r60;l20;\") = 4", "lay(0, [0 0]) = 0", "may(1, 1..) = 0 0", "may(1, 19..) = 0 0 0",
            "may(1, 38..) = 0 0 1 1", "lap(19) = 20", "may(1, 1..) = 1 0 0", "may(1, 37..) = 0 0 1");
        // each joint below counts, not only the nearest ones' first, and the row itself, or one two below, does not
        edges.run("roof(\"w5 12 1;r60;r60;r60;\") = 4", "lay(0, " + TWELVE + ") = 0", "may(1, 52..) = 0 0 0 0 0 0 1 1 -1",
            "may(0, 5) = 1", "may(2, 5) = 1");
        // where the row below ends, or its cut slate would, is no joint
        edges.run("roof(\"w10 9 1;r15;r40;\") = 3", "lay(0, [0 0]) = 5", "may(1, 12..) = 0 1 1 1 1 1 1 1 1 1");
        edges.says(9, ", if that is laid.");
        edges.run("roof(\"w10 9 1;r30;r40;\") = 3", "may(1, 10) = 1", "lay(0, [0 0 0]) = 0", "may(1, 10) = 0", "takeUp(0) = 3",
            "may(1, 10) = 1");
        edges.says(9, "-1.");
        edges.run("roof(\"r10;r60;\") = 2", "may(0, -1) = -1", "may(0, MIN) = -1", "may(0, MAX) = -1", "may(-1, 1) = -1",
            "may(2, 1) = -1", "may(6, 1) = -1", "may(MIN, 1) = -1", "may(MAX, 1) = -1");
    }

    private void judgedSlates() {
        edges.says(10,
            "A LAYING of a ROW (slates as told by numbers of WIDTHS) is JUDGED: the place of the first slate that is no WIDTH");
        edges.run("roof(\"w5 9 1;w6 9 1;r16;\") = 3", "judge(0, [0 1 0]) = -4", "judge(0, [2 1 0]) = 0", "judge(0, [0 2 0]) = 1",
            "judge(0, [0 1 2]) = 2", "judge(0, [0 1 -1]) = 2", "judge(0, [MIN]) = 0", "judge(0, [0 MAX]) = 1",
            "judge(0, [4]) = 0", "judge(0, [0 1 256]) = 2");
        edges.run("roof(\"w5 1 1;w6 1 1;w7 1 1;w8 1 1;r26;\") = 5", "judge(0, [3 2 1 0]) = -4", "judge(0, [3 2 1 4]) = 3");
        edges.run("roof(\"r10;\") = 1", "judge(0, [0]) = 0");
        edges.run("roof(\"w5 9 1;w6 9 1;r16;\") = 3", "judge(0, [0 257 0]b) = -4", "judge(0, [0 -255 0]b) = -4",
            "judge(0, [0 255 0]b) = 1", "judge(0, [0 257 0]s) = 1", "judge(0, [0 65537 0]s) = -4", "judge(0, [0 65535 0]s) = 1",
            "judge(0, [0 65537 0]) = 1");
        edges.says(10, "of which the heap has not so many");
        edges.run("roof(\"w5 3 1;w6 1 1;r21;r15;\") = 4", "judge(0, [0 0 0 0]) = 3", "judge(0, [0 0 0 1]) = -4",
            "judge(0, [0 1 0 1]) = 3", "judge(1, [0 0 0]) = -4", "heap(0, 2) = 3", "judge(1, [0 0 0]) = 2", "heap(0, 0) = 2",
            "judge(1, [0 0 0]) = 0", "judge(1, [1 1 1]) = 1");
        edges.run("roof(\"w5 12 1;r60;\") = 2", "judge(0, " + TWELVE + ") = -4", "heap(0, 11) = 12",
            "judge(0, " + TWELVE + ") = 11");
        edges.says(10, "whose JOINT may not be");
        edges.run("roof(\"w10 9 1;w7 9 1;w8 9 1;r20;r20;\") = 5", "lay(0, [0 0]) = 0", "judge(1, [0 0]) = 0",
            "judge(1, [1 1 0]) = -4", "judge(1, [2 0 0]) = 0", "lap(2) = 3", "judge(1, [2 0 0]) = -4", "lap(0) = 2",
            "judge(1, [0 0]) = -4");
        edges.run("roof(\"w10 9 1;w12 9 1;w13 9 1;r20;r20;\") = 5", "lay(0, [0 0]) = 0", "judge(1, [1 0]) = 0",
            "judge(1, [2 0]) = -4");
        // what ends at the length or beyond has no joint, wherever the row below has one
        edges.run("roof(\"w10 9 1;w5 9 1;r30;r20;r10;\") = 5", "lay(0, [0 0 0]) = 0", "judge(1, [1 0 1]) = -4",
            "judge(1, [1 0 0]) = -4");
        edges.says(10, "or that begins at the LENGTH or beyond");
        edges.run("roof(\"w5 9 1;w6 9 1;r10;\") = 3", "judge(0, [0 0 0]) = 2", "judge(0, [0 1 0]) = 2", "judge(0, [1 1 0 0]) = 2",
            "judge(0, [0 0]) = -4");
        edges.run("roof(\"w9 9 1;w5 9 1;r10;\") = 3", "judge(0, [0 1]) = -4", "judge(0, [0 1 1]) = 2");
        edges.run("roof(\"w5 12 1;w6 1 1;r60;\") = 3", "judge(0, [0 0 0 0 0 0 0 0 0 0 0 0 1]) = 12");
        edges.run("roof(\"w30 12 1;r10;\") = 2", "judge(0, [0 0]) = 1");
    }

    private void judgedAtTheEnd() {
        edges.says(10, "how many slates, if it doesn't come to the LENGTH");
        edges.run("roof(\"w5 9 1;w6 9 1;w9 9 1;r10;r60;\") = 5", "judge(0, []) = 0", "judge(0, []b) = 0", "judge(0, [0]) = 1",
            "judge(0, [2]) = 1", "judge(0, [0 0]) = -4", "judge(1, [2 2 2 2 2 2 0]) = 7", "judge(1, [2 2 2 2 2 2 1]) = -4");
        edges.run("roof(\"w5 12 1;r60;\") = 2", "judge(0, [0 0 0 0 0 0 0 0 0 0 0]) = 11");
        edges.says(10, "-4 none (the last one may be CUT).");
        edges.run("roof(\"w5 9 1;w6 9 1;w30 9 1;r10;\") = 4", "judge(0, [0 0]) = -4", "judge(0, [0 1]) = -4",
            "judge(0, [2]) = -4", "judge(0, [0 2]) = -4");
    }

    private void judgedOfSeveral() {
        edges.says(10, "the place of the first slate that");
        // no width at 2, joint at 1; not so many at 2, joint at 1; no width at 0, not so many at 1
        edges.run("roof(\"w5 9 1;w10 4 1;r20;r20;\") = 4", "lay(0, [1 1]) = 0", "judge(1, [0 0 7]) = 1", "heap(0, 2) = 9",
            "judge(1, [0 0 0]) = 1", "heap(0, 0) = 2", "judge(1, [7 0]) = 0", "judge(1, [0 7]) = 0");
        // behind the length, and no width there
        edges.run("roof(\"w5 9 1;r10;\") = 2", "judge(0, [0 0 0 7]) = 2", "judge(0, [0 0 7 0]) = 2", "judge(0, [0 7]) = 1",
            "judge(0, [0 7 7]) = 1");
    }

    private void refusalsOfJudge() {
        edges.says(10, "JUDGED of a ROW by numbers in SHELF d; -4.");
        edges.run("roof(\"w5 9 1;r10;\") = 2", "judge(0, 0:[0 0]) = -4", "judge(0, 7:[0 0]s) = -4", "judge(0, 3:[0 0]b) = -4",
            "judge(0, 3:[0]) = 1", "judge(0, 0) = -4", "rowOf(0, 1) = 0", "width(0, 1) = 9");
        edges.says(10, "-1; -3: the ROW is laid; -11, -12 (no ROW of numbers).");
        edges.run("roof(\"w5 9 1;r10;r10;\") = 3", "judge(-1, [0 0]) = -1", "judge(2, 6) = -1", "judge(6, 6) = -1",
            "judge(MIN, 6) = -1", "judge(MAX, 6) = -1", "judge(0, -1) = -1", "judge(0, 8) = -1", "judge(0, MIN) = -1",
            "judge(0, MAX) = -1", "lay(0, 6) = 0", "judge(0, 6) = -3", "judge(1, 0) = -11", "judge(1, <0 0>) = -12",
            "takeUp(0) = 2", "judge(0, 6) = -4");
    }

    private void laid() {
        edges.says(11, "LAID: a JUDGED one that is none: its slates leave the heap");
        edges.run("roof(\"w5 4 2;w6 1 3;r10;r11;l0;\") = 5", "lay(0, [0 0]) = 0", "width(0.., 1) = 2 1", "lay(1, [1 0]) = 0",
            "width(0.., 1) = 1 0", "count(3..) = 1 2 2");
        edges.run("roof(\"w30 1 9;r10;\") = 2", "lay(0, [0]) = 20", "width(0, 1) = 0", "count(3..) = 0 1 0");
        edges.says(11, "(the ROW must not be laid)");
        edges.run("roof(\"w5 12 1;r10;\") = 2", "lay(0, [0 0]) = 0 -3", "width(0, 1) = 10", "takeUp(0) = 2", "lay(0, 6) = 0",
            "width(0, 1) = 10");
        edges.says(11, "slates one behind the other from 0 on (WIDTHS; 12 at most)");
        edges.run("roof(\"w5 12 1;r60;\") = 2", "lay(0, " + THIRTEEN + ") = -3", "lay(0, " + TWELVE + ") = 0", "rowOf(0, 1) = 12",
            "width(0, 1) = 0", "joint(0, 0) = 5");
        edges.run("roof(\"w5 12 1;w30 1 1;r60;\") = 3", "lay(0, [0 0 0 0 0 0 0 0 0 0 0 1]) = 25", "rowOf(0, 1) = 12",
            "slate(0, 10..) = 0 1 -4");
        edges.says(11, "LAID by numbers in SHELF d: by how much it is CUT.");
        edges.run("roof(\"w5 9 1;w6 9 1;r10;r10;r11;\") = 5", "lay(0, 0:[0 0]b) = 0", "lay(2, 7:[0 1]s) = 0",
            "lay(1, 3:[1]) = -3", "lay(1, 3:[1 1]) = -3", "lap(0) = 3", "lay(1, 3) = 2");
        edges.says(11, "and what is taken from a SHELF, stay there");
        edges.run("roof(\"w5 9 1;w6 9 1;r11;\") = 3", "lay(0, [0 1]) = 0", "element(6, 0..) = 0 1 throws.IllegalStateException",
            "put(6, 0, 1) = 0", "slate(0, 0) = 0", "row(6, 2, 0) = 0", "slate(0, 0..) = 0 1 -4");
    }

    private void cut() {
        edges.says(11, "that end at its LENGTH, or beyond it: the last one is CUT then (by so much).");
        edges.run("roof(\"w5 9 1;w6 9 1;w9 1 1;w30 1 1;r10;\") = 5", "lay(0, [0 0]) = 0", "takeUp(0) = 2", "lay(0, [0 1]) = 1",
            "rowOf(0, 2) = 1", "takeUp(0) = 1", "lay(0, [2 3]) = 29", "rowOf(0, 1..) = 2 29");
        edges.run("roof(\"w30 9 1;r60;r59;r31;\") = 4", "lay(0, [0 0]) = 0", "lap(0) = 3", "lay(1, [0 0]) = 1",
            "lay(2, [0 0]) = 29");
    }

    private void refusalsOfLay() {
        edges.says(11, "-1; -3: the ROW is laid, or JUDGED isn't none; -11, -12.");
        edges.run("roof(\"w5 9 1;r10;r10;\") = 3", "lay(-1, [0 0]) = -1", "lay(2, 6) = -1", "lay(6, 6) = -1", "lay(MIN, 6) = -1",
            "lay(MAX, 6) = -1", "lay(0, -1) = -1", "lay(0, 8) = -1", "lay(0, MIN) = -1", "lay(0, MAX) = -1", "lay(1, 0) = -11",
            "lay(1, <0 0>) = -12", "count(3) = 9");
        edges.run("roof(\"w5 3 1;w6 1 1;r10;r10;r20;\") = 5", "lay(0, [0 0]) = 0 -3", "lay(1, [0 0]) = -3", "lay(1, [2 0]) = -3",
            "lay(1, [-1]) = -3", "lay(1, []) = -3", "lay(1, [1]) = -3", "lay(2, [0 0 1]) = -3", "lay(2, [0 1]) = -3",
            "count(3..) = 2 1", "rowOf(0.., 1) = 2 0 0");
        edges.run("roof(\"w5 12 1;r10;\") = 2", "lay(0, [0 0 0]) = -3", "lay(0, [0 0 0 0]) = -3", "lay(0, [0 0 9]) = -3",
            "rowOf(0, 1) = 0");
    }

    private void takenUp() {
        edges.says(12, "TAKEN UP: a laid ROW's slates go back");
        edges.run("roof(\"w5 4 1;w6 3 1;r16;r60;\") = 4", "lay(0, [0 1 0]) = 0", "width(0.., 1) = 2 2", "takeUp(0) = 3",
            "width(0.., 1) = 4 3", "rowOf(0, 0..) = 16 0 0", "count(4) = 0", "lay(0, [1 0 0]) = 0", "slate(0, 0..) = 1 0 0 -4");
        edges.run("roof(\"w5 12 1;r60;\") = 2", "lay(0, " + TWELVE + ") = 0", "takeUp(0) = 12", "width(0, 1) = 12");
        edges.says(12, "(12 of a WIDTH at most; a CUT one doesn't)");
        edges.run("roof(\"w5 12 1;w6 12 1;r21;\") = 3", "lay(0, [0 1 0 0]) = 0", "heap(0, 10) = 9", "takeUp(0) = 3",
            "width(0.., 1) = 12 12");
        edges.run("roof(\"w5 12 1;r14;r11;r15;l0;\") = 5", "lay(0, [0 0 0]) = 1", "takeUp(0) = 2", "width(0, 1) = 11",
            "lay(1, [0 0 0]) = 4", "takeUp(1) = 2", "width(0, 1) = 10", "lay(2, [0 0 0]) = 0", "takeUp(2) = 3",
            "width(0, 1) = 10");
        edges.run("roof(\"w30 12 1;r10;r30;\") = 3", "lay(0, [0]) = 20", "takeUp(0) = 0", "width(0, 1) = 11", "lay(1, [0]) = 0",
            "takeUp(1) = 1", "width(0, 1) = 11");
        edges.says(12,
            "TAKEN UP: how many slates go back (one of a WIDTH of which the heap has 12 already is gone, and not counted)");
        edges.run("roof(\"w5 12 1;w6 12 1;r21;\") = 3", "lay(0, [0 1 0 0]) = 0", "heap(0, 11) = 9", "heap(1, 12) = 11",
            "takeUp(0) = 1", "width(0.., 1) = 12 12", "rowOf(0, 1) = 0", "takeUp(0) = -3");
        edges.run("roof(\"w5 12 1;w6 2 1;r21;\") = 3", "lay(0, [0 1 0 0]) = 0", "heap(0, 12) = 9", "takeUp(0) = 1",
            "width(0.., 1) = 12 2");
        edges.run("roof(\"w5 12 1;r14;\") = 2", "lay(0, [0 0 0]) = 1", "heap(0, 12) = 9", "takeUp(0) = 0", "width(0, 1) = 12",
            "rowOf(0, 1) = 0");
    }

    private void refusalsOfTakeUp() {
        edges.says(12, "-1; -3: not laid.");
        edges.run("roof(\"w5 12 1;r10;r10;\") = 3", "takeUp(-1) = -1", "takeUp(2) = -1", "takeUp(6) = -1", "takeUp(MIN) = -1",
            "takeUp(MAX) = -1", "takeUp(0) = -3", "lay(0, [0 0]) = 0", "takeUp(1) = -3", "takeUp(0) = 2 -3", "width(0, 1) = 12");
    }
}
