/** Edges of promises 13 to 23: ways. */
final class WaysEdges {
    private static final String TWELVE = "[0 0 0 0 0 0 0 0 0 0 0 0]";
    private static final String MOST = "roof(\"w5 12 9;w6 12 9;w7 12 9;w8 12 9;r60;r59;\") = 6";
    /** Row 0 is laid with a joint at 10, so that in row 1 only 5, 10, 5 is left with a lap of 1 to 5. */
    private static final String[] ABOVE = {"roof(\"w5 8 1;w10 6 1;r20;r20;\") = 4", "lay(0, [1 1]) = 0"};

    private final Edges edges;

    WaysEdges(Edges edges) {
        this.edges = edges;
    }

    void all() {
        fills();
        first();
        best();
        cuts();
        uses();
        needs();
        ends();
        gaps();
        two();
        allRows();
        brokenByPlaces();
        brokenByHeap();
        brokenAndCut();
        rowsThatAreNotThere();
        widthsThatAreNotThere();
    }

    private void above(String... lines) {
        edges.runBehind(ABOVE, lines);
    }

    private void fills() {
        edges.says(13, "FILLS of a ROW (not laid): orders of slates out of the heap");
        edges.run("roof(\"w5 4 1;w10 2 1;r20;\") = 3", "fills(0) = 5", "heap(0, 3) = 4", "fills(0) = 4", "heap(0, 2) = 3",
            "fills(0) = 4", "heap(0, 1) = 2", "fills(0) = 1", "heap(1, 1) = 2", "fills(0) = 0", "heap(0, 12) = 1",
            "heap(1, 12) = 1", "fills(0) = 5", "heap(0, 0) = 12", "heap(1, 0) = 12", "fills(0) = 0");
        edges.run("roof(\"w5 12 1;r60;\") = 2", "fills(0) = 1", "heap(0, 11) = 12", "fills(0) = 0");
        edges.run("roof(\"r10;\") = 1", "fills(0) = 0");
        edges.says(13, "none CUT");
        edges.run("roof(\"w6 9 1;r10;r11;r12;r13;\") = 5", "fills(0..) = 0 0 1 0");
        edges.run("roof(\"w30 9 1;r10;r29;r30;r31;\") = 5", "fills(0..) = 0 0 1 0");
        edges.says(13, "all JOINTS may be");
        above("fills(1) = 1", "lap(5) = 3", "fills(1) = 1", "lap(6) = 5", "fills(1) = 0", "lap(1) = 6", "fills(1) = 1",
            "lap(0) = 1", "fills(1) = 5", "lap(3) = 0", "takeUp(0) = 2", "fills(1) = 5");
        edges.says(13, "that end at its LENGTH: how many");
        // the row below has a joint where this row ends
        edges.run("roof(\"w10 6 1;w5 6 1;r30;r20;\") = 4", "lay(0, [0 0 0]) = 0", "fills(1) = 1");
        edges.run("roof(\"w10 6 1;r10;r60;\") = 3", "fills(0..) = 1 1");
        edges.says(13, "How many FILLS.");
        edges.run(MOST, "fills(0..) = 75884 61044 -1");
        edges.says(13, "-1; -3: laid.");
        edges.run("roof(\"w20 9 1;r20;r20;\") = 3", "fills(0) = 1", "lay(0, [0]) = 0", "fills(0) = -3", "fills(1) = 1",
            "takeUp(0) = 1", "fills(0) = 1");
    }

    private void first() {
        edges.says(14, "the first of them by numbers of WIDTHS, slate by slate.");
        edges.run("roof(\"w10 2 1;w5 4 1;r20;\") = 3", "first(0, 0..) = 0 0 -4", "heap(0, 1) = 2", "first(0, 0..) = 0 1 1 -4",
            "heap(0, 0) = 1", "first(0, 0..) = 1 1 1 1 -4");
        edges.run("roof(\"w5 3 1;w8 2 1;r16;r13;\") = 4", "first(0, 0..) = 1 1 -4", "first(1, 0..) = 0 1 -4");
        edges.says(14, "The first FILL: its i-th WIDTH");
        edges.run(MOST, "first(0, 0..) = 0 0 0 0 0 0 0 0 0 0 0 0 -4", "first(1, 0..) = 0 0 0 0 0 0 0 0 0 1 3 -4");
        edges.run("roof(\"w60 1 1;\") = -2000", "roof(\"w5 1 1;w6 1 1;w7 1 1;w30 1 1;r30;\") = 5", "first(0, 0..) = 3 -4");
        edges.says(14, "-4: no FILL, not so many.");
        edges.run("roof(\"w5 9 1;r10;r11;\") = 3", "first(0, 0..) = 0 0 -4 -4", "first(0, MAX) = -4", "first(1, 0) = -4",
            "first(1, MAX) = -4", "heap(0, 1) = 9", "first(0, 0) = -4");
        edges.says(14, "-1 (i below 0); -3.");
        edges.run("roof(\"w20 9 1;r20;r21;\") = 3", "first(0, -1) = -1", "first(0, MIN) = -1", "first(1, -1) = -1",
            "lay(0, [0]) = 0", "first(0, 0) = -3", "first(0, MAX) = -3");
    }

    private void best() {
        edges.says(15, "BEST: of these the one whose slates are WORTH least together");
        edges.run("roof(\"w5 4 5;w10 2 8;r20;\") = 3", "best(0, -1..) = 16 1 1 -4", "heap(1, 1) = 2",
            "best(0, -1..) = 18 0 0 1 -4", "heap(1, 0) = 1", "best(0, -1..) = 20 0 0 0 0 -4", "heap(0, 3) = 4",
            "best(0, -1..) = -4 -4");
        edges.run("roof(\"w5 12 99;r60;\") = 2", "best(0, -1) = 1188");
        edges.run("roof(\"w10 2 0;w20 1 1;r20;\") = 3", "best(0, -1..) = 0 0 0 -4");
        edges.run("roof(\"w10 2 99;w20 1 0;r20;\") = 3", "best(0, -1..) = 0 1 -4");
        edges.says(15, "of several the first.");
        edges.run("roof(\"w5 4 9;w10 2 8;w20 1 16;r20;\") = 4", "best(0, -1..) = 16 1 1 -4");
        edges.run("roof(\"w20 1 16;w10 2 8;w5 4 4;r20;\") = 4", "best(0, -1..) = 16 0 -4", "heap(0, 0) = 1",
            "best(0, -1..) = 16 1 1 -4", "heap(1, 1) = 2", "best(0, -1..) = 16 1 2 2 -4");
        above("best(1, -1..) = 3 0 1 0 -4");
        edges.says(15, "BEST: its WORTH (i -1), its i-th WIDTH; -4.");
        edges.run("roof(\"w5 9 7;r10;r11;\") = 3", "best(0, -1..) = 14 0 0 -4", "best(0, MAX) = -4", "best(1, -1..) = -4 -4 -4");
        edges.says(15, "-1 (i below -1); -3.");
        edges.run("roof(\"w20 9 1;r20;r21;\") = 3", "best(0, -2) = -1", "best(0, MIN) = -1", "best(1, -2) = -1",
            "lay(0, [0]) = 0", "best(0, -1..) = -3 -3 -3", "best(0, MAX) = -3");
    }

    private void cuts() {
        edges.says(16, "CUTS: orders likewise whose last slate is CUT");
        edges.run("roof(\"w5 9 1;r10;r12;\") = 3", "cuts(0, -1..) = -4 -4", "cuts(1, -1..) = 3 0 0 0 -4", "heap(0, 3) = 9",
            "cuts(1, -1) = 3", "heap(0, 2) = 3", "cuts(1, -1..) = -4 -4");
        above("cuts(1, -1) = 5", "cuts(1, 0..) = 0 1 1 -4", "lap(6) = 3", "cuts(1, -1) = -4", "lap(0) = 6",
            "cuts(1, 0..) = 0 0 0 1 -4");
        edges.says(16, "the least by which it is (1 or more)");
        edges.run("roof(\"w5 9 1;w6 9 1;r10;\") = 3", "fills(0) = 1", "cuts(0, -1..) = 1 0 1 -4");
        edges.run("roof(\"w30 2 1;r31;r10;r30;\") = 4", "cuts(0, -1..) = 29 0 0 -4", "cuts(1, -1..) = 20 0 -4",
            "cuts(2, -1) = -4");
        edges.says(16, "the first order with so little.");
        edges.run("roof(\"w10 9 1;w6 9 1;r17;\") = 3", "cuts(0, -1..) = 1 1 1 1 -4");
        edges.run("roof(\"w12 1 1;w9 3 1;w11 1 1;r20;\") = 4", "cuts(0, -1..) = 1 0 1 -4");
        edges.run("roof(\"w9 3 1;w12 1 1;w11 1 1;r20;\") = 4", "cuts(0, -1..) = 1 0 1 -4");
        edges.says(16, "CUTS: the least (i -1), the i-th WIDTH of the first such order; -4.");
        edges.run("roof(\"w5 12 1;w6 1 1;r60;r59;\") = 4", "cuts(0, -1..) = 1 0 0 0 0 0 0 0 0 0 0 0 1 -4", "cuts(1, -1) = 1",
            "cuts(1, 11..) = 0 -4", "cuts(1, MAX) = -4");
        edges.run("roof(\"r10;\") = 1", "cuts(0, -1..) = -4 -4");
        edges.says(16, "-1 (i below -1); -3.");
        edges.run("roof(\"w20 9 1;r20;r19;\") = 3", "cuts(0, -2) = -1", "cuts(0, MIN) = -1", "cuts(1, -2) = -1",
            "lay(0, [0]) = 0", "cuts(0, -1..) = -3 -3", "cuts(0, MAX) = -3", "lay(1, [0]) = 1", "cuts(1, -1) = -3");
    }

    private void uses() {
        edges.says(17, "USES of a WIDTH: how many FILLS there are more than if the heap had one fewer of it");
        edges.run("roof(\"w5 4 1;w10 2 1;w7 1 1;r20;\") = 4", "uses(0, 0..) = 1 1 0 -1", "heap(0, 2) = 4", "uses(0, 0..) = 3 1 0",
            "heap(0, 5) = 2", "uses(0, 0) = 0");
        edges.run("roof(\"w5 12 1;r60;\") = 2", "uses(0, 0) = 1", "heap(0, 11) = 12", "uses(0, 0) = 0");
        edges.run("roof(\"w20 1 1;r20;\") = 2", "uses(0, 0) = 1");
        // the one order that takes twelve 5s
        edges.run(MOST, "uses(0, 0) = 1", "fills(0) = 75884", "width(0, 1) = 12");
        edges.says(17, "(0, if it has none).");
        edges.run("roof(\"w5 0 1;w10 2 1;r20;\") = 3", "uses(0, 0) = 0", "fills(0) = 1", "heap(1, 0) = 2", "uses(0, 1) = 0");
        edges.run("roof(\"w7 0 1;w5 4 1;w10 2 1;r20;\") = 4", "fills(0) = 5", "uses(0, 0..) = 0 1 1");
        edges.says(17, "USES of a WIDTH. -1; -3.");
        edges.run("roof(\"w20 9 1;w10 0 1;r20;r21;\") = 4", "lay(0, [0]) = 0", "uses(0, 0) = -3", "uses(0, 1) = -3",
            "uses(1, 0) = 0");
    }

    private void needs() {
        edges.says(18,
            "NEEDS: the least n (0 .. 12) such that with n more of a WIDTH (12 at most in all) there is some FILL; -4.");
        edges.run("roof(\"w5 0 1;w6 0 1;w7 0 1;r60;\") = 4", "needs(0, 0..) = 12 10 -4 -1", "heap(0, 1) = 0", "needs(0, 0) = 11",
            "heap(0, 11) = 1", "needs(0, 0) = 1", "heap(0, 12) = 11", "needs(0, 0..) = 0 0 0", "width(0.., 1) = 12 0 0");
        edges.run("roof(\"w5 3 1;w10 0 1;w7 12 1;r20;r11;\") = 5", "needs(0, 0..) = 1 1 -4", "needs(1, 0..) = -4 -4 -4",
            "heap(1, 12) = 0", "needs(0, 0..) = 0 0 0", "needs(1, 1) = -4");
        edges.run("roof(\"w8 12 1;w6 1 1;r60;r54;\") = 4", "needs(0, 0..) = -4 1", "needs(1, 1) = 0");
        above("heap(0, 1) = 8", "needs(1, 0..) = 1 -4", "lap(6) = 3", "needs(1, 0..) = -4 -4", "lap(0) = 6", "needs(1, 0) = 0");
        edges.says(18, "NEEDS of a WIDTH; -4. -1; -3.");
        edges.run("roof(\"w20 9 1;w7 0 1;r20;r21;\") = 4", "needs(1, 0..) = -4 3 -1", "lay(0, [0]) = 0", "needs(0, 0) = -3",
            "needs(0, 1) = -3");
    }

    private void ends() {
        edges.says(19, "ENDS: how many FILLS end with a WIDTH.");
        edges.run("roof(\"w5 4 1;w10 2 1;w7 9 1;w20 1 1;r20;\") = 5", "ends(0, 0..) = 3 2 0 1 -1", "fills(0) = 6",
            "heap(3, 0) = 1", "ends(0, 0..) = 3 2 0 0");
        edges.run(MOST, "ends(0, 0..) = 25589 20512 16483 13300");
        above("ends(1, 0..) = 1 0");
        edges.says(19, "ENDS of a WIDTH. -1; -3.");
        edges.run("roof(\"w20 9 1;w7 0 1;r20;r21;\") = 4", "ends(1, 0..) = 0 0 -1", "lay(0, [0]) = 0", "ends(0, 0) = -3",
            "ends(0, 1) = -3");
    }

    private void gaps() {
        edges.says(20, "GAPS: how many x (1 .. LENGTH less 1) at which a JOINT may be.");
        edges.run("roof(\"r10;r60;\") = 2", "gaps(0..) = 9 59 -1");
        edges.run("roof(\"w10 9 1;r30;r40;r10;\") = 4", "lay(0, [0 0 0]) = 0", "gaps(0..) = 29 29 9", "lap(1) = 3",
            "gaps(1) = 37", "lap(0) = 1", "gaps(1) = 39", "lap(19) = 0", "gaps(1) = 1", "lap(20) = 19", "gaps(1) = 0",
            "takeUp(0) = 3", "gaps(1) = 39");
        // a gap at 1 and at the length less 1
        edges.run("roof(\"w5 12 1;r10;r10;l4;\") = 4", "lay(0, [0 0]) = 0", "gaps(1) = 2", "may(1, 1) = 1", "may(1, 9) = 1",
            "lap(5) = 4", "gaps(1) = 0");
        edges.says(20, "GAPS. -1.");
        edges.run("gaps(0) = -1", "roof(\"w10 9 1;r10;\") = 2", "lay(0, [0]) = 0", "gaps(0) = 9", "gaps(-1) = -1", "gaps(1) = -1",
            "gaps(6) = -1", "gaps(MIN) = -1", "gaps(MAX) = -1");
    }

    private void two() {
        edges.says(21, "TWO ROWS that aren't laid, unlike and not one above the other");
        edges.run("roof(\"w10 12 1;r10;r10;r10;r10;r10;r10;\") = 7", "two(0, 0..) = -1 -1 2 2 2 2 -1",
            "two(3, 0..) = 2 2 -1 -1 -1 2 -1", "two(5, 0..) = 2 2 2 2 -1 -1 -1");
        edges.says(21, "whether both can be FILLED from the heap together");
        edges.run("roof(\"w10 4 3;r20;r20;r20;\") = 4", "two(0, 2) = 12", "two(2, 0) = 12", "heap(0, 3) = 4", "two(0, 2) = -4",
            "fills(0) = 1", "fills(2) = 1", "heap(0, 12) = 3", "two(0, 2) = 12");
        edges.run("roof(\"w5 12 99;w6 12 99;r60;r10;r60;\") = 5", "two(0, 2) = 2178", "heap(0, 11) = 12", "two(0, 2) = -4",
            "heap(0, 12) = 11", "heap(1, 9) = 12", "two(0, 2) = -4", "heap(1, 10) = 9", "two(0, 2) = 2178");
        edges.says(21, "the sum of WORTHS least");
        edges.run("roof(\"w10 4 3;w20 1 5;r20;r20;r20;\") = 5", "two(0, 2) = 11", "heap(1, 2) = 1", "two(0, 2) = 10",
            "heap(1, 0) = 2", "two(0, 2) = 12");
        edges.run("roof(\"w10 4 0;r20;r20;r20;\") = 4", "two(0, 2) = 0");
        // the best of row 0 takes the one slate without which row 2 can't be filled
        edges.run("roof(\"w20 2 1;w8 1 20;w12 1 20;w10 3 5;r20;r40;r30;\") = 7", "lay(1, [3 0 3]) = 0", "best(0, -1) = 1",
            "fills(2) = 1", "two(0, 2) = 46", "two(2, 0) = 46");
        edges.says(21, "-4 they can't.");
        edges.run("roof(\"w10 9 1;r20;r20;r25;r20;\") = 5", "two(0, 2) = -4", "two(2, 0) = -4", "two(0, 3) = 4");
        edges.run("roof(\"r20;r20;r20;\") = 3", "two(0, 2) = -4");
        edges.says(21, "TWO ROWS; -4. -1 (one twice, one above the other, too); -3: either is laid.");
        edges.run("roof(\"w20 9 1;r20;r20;r20;r20;\") = 5", "two(2, 2) = -1", "two(1, 2) = -1", "two(2, 1) = -1",
            "two(-1, 1) = -1", "two(1, -1) = -1", "two(4, 1) = -1", "two(1, 4) = -1", "two(MIN, 0) = -1", "two(0, MIN) = -1",
            "two(MAX, 0) = -1", "two(MIN, MAX) = -1", "lay(1, [0]) = 0", "two(0, 2) = 2", "two(1, 3) = -3", "two(3, 1) = -3",
            "lay(3, [0]) = 0", "two(1, 3) = -3", "two(1, 1) = -1", "two(0, 2) = 2");
    }

    private void allRows() {
        edges.says(22, "ALL: ROWS from below that aren't laid are each laid BEST (in mind)");
        edges.run("roof(\"w10 5 3;w5 4 1;r20;r20;r20;l0;\") = 6", "all(0..) = 3 3", "lap(3) = 0", "all(0..) = 1 15",
            "lay(0, [0 0]) = 0", "all(0..) = 2 2", "count(4) = 1");
        edges.run("roof(\"w10 2 2;w30 1 1;r10;r30;\") = 4", "lay(1, [1]) = 0", "all(0..) = 1 2");
        edges.run("roof(\"w10 6 2;w30 1 1;r10;r10;r10;r10;r10;r10;\") = 8", "all(0..) = 6 1");
        edges.run("roof(\"w10 1 2;r10;\") = 2", "lay(0, [0]) = 0", "all(0..) = 0 0");
        edges.says(22, "till one has no FILL: how many are; the WORTH of the heap left then.");
        edges.run("roof(\"w10 5 3;r20;r15;r20;\") = 4", "all(0..) = 1 9");
        edges.run("roof(\"w10 5 3;r15;r20;r20;\") = 4", "all(0..) = 0 15");
        edges.run("roof(\"w10 5 3;r10;r20;r25;\") = 4", "all(0..) = 2 6");
        edges.run("roof(\"w10 1 3;r10;r10;\") = 3", "all(0..) = 1 0");
        edges.run("roof(\"w5 12 99;w6 12 99;w7 12 99;w8 12 99;\") = 4", "all(0..) = 0 4752");
        edges.says(22, "ALL: how many (what 0), the WORTH of the heap left (1). -1.");
        edges.run("all(-1..) = -1 0 0 -1", "all(MIN) = -1", "all(MAX) = -1", "roof(\"w10 1 3;r10;\") = 2",
            "all(-1..) = -1 1 0 -1");
    }

    private void brokenByPlaces() {
        edges.says(23, "BROKEN: the i-th slate of a laid ROW is broken (gone): how many slates least");
        edges.run("roof(\"w5 6 1;w10 6 1;r20;\") = 3", "lay(0, [1 1]) = 0", "broken(0, 0..) = 1 1 -1", "heap(1, 0) = 4",
            "broken(0, 0..) = 1 1", "heap(0, 1) = 6", "broken(0, 0..) = -4 -4", "heap(0, 2) = 1", "broken(0, 0..) = 1 1",
            "heap(0, 0) = 2", "broken(0, 0..) = -4 -4");
        edges.run("roof(\"w30 2 1;r30;\") = 2", "lay(0, [0]) = 0", "broken(0, 0) = 1", "heap(0, 0) = 1", "broken(0, 0) = -4");
        edges.says(23, "from some place up to i on to i or some one behind (all between; the broken one counts), are taken up");
        // a 10 in place of two 5s that lie side by side
        edges.run("roof(\"w5 9 1;w10 9 1;r20;\") = 3", "lay(0, [1 0 0]) = 0", "heap(0, 0) = 7", "heap(1, 1) = 8",
            "broken(0, 0..) = 1 2 2 -1");
        edges.run("roof(\"w5 9 1;w10 9 1;r20;\") = 3", "lay(0, [0 0 1]) = 0", "heap(0, 0) = 7", "heap(1, 1) = 8",
            "broken(0, 0..) = 2 2 1 -1");
        // two 10s, or a 20, in place of 5, 10, 5
        edges.run("roof(\"w5 9 1;w10 9 1;w20 9 1;r20;\") = 4", "lay(0, [0 1 0]) = 0", "heap(0, 0) = 7", "heap(1, 1) = 8",
            "heap(2, 0) = 9", "broken(0, 0..) = 3 1 3 -1", "heap(1, 0) = 1", "broken(0, 0..) = -4 -4 -4 -1", "heap(2, 1) = 0",
            "broken(0, 0..) = 3 3 3 -1");
        edges.run("roof(\"w5 12 1;w12 5 1;r60;\") = 3", "lay(0, " + TWELVE + ") = 0",
            "broken(0, 0..) = 12 12 12 12 12 12 12 12 12 12 12 12 -1", "heap(1, 4) = 5", "broken(0, 0) = -4",
            "broken(0, 11) = -4", "heap(0, 1) = 0", "broken(0, 0) = 1");
        edges.run("roof(\"w5 12 1;w6 5 1;r60;\") = 3", "lay(0, " + TWELVE + ") = 0", "broken(0, 0..) = 6 6 6 6 6 6 6 6 6 6 6 6",
            "heap(1, 4) = 5", "broken(0, 6) = -4");
        edges.says(23, "BROKEN; -4. -1 (no i-th slate, not laid, too).");
        edges.run("broken(0, 0) = -1", "roof(\"w10 9 1;r20;r20;\") = 3", "broken(0, 0) = -1", "lay(0, [0 0]) = 0",
            "broken(0, -1) = -1", "broken(0, 2) = -1", "broken(0, MIN) = -1", "broken(0, MAX) = -1", "broken(1, 0) = -1",
            "broken(2, 0) = -1", "broken(6, 0) = -1", "broken(-1, 0) = -1", "broken(MIN, 0) = -1", "broken(MAX, 0) = -1",
            "takeUp(0) = 2", "broken(0, 0) = -1");
    }

    private void brokenByHeap() {
        edges.says(23, "so that others out of the heap (with those taken up but it) fill just that gap");
        // the broken 10 itself fills nothing; the other 10, taken up, does
        edges.run("roof(\"w5 9 1;w10 2 1;w15 1 1;r25;\") = 4", "lay(0, [1 2]) = 0", "heap(0, 0) = 9", "heap(1, 0) = 1",
            "broken(0, 0) = -4", "heap(0, 2) = 0", "broken(0, 0) = 1");
        edges.run("roof(\"w5 9 1;w10 2 1;w15 1 1;r25;\") = 4", "lay(0, [1 2]) = 0", "heap(0, 1) = 9", "heap(1, 0) = 1",
            "broken(0, 0) = -4", "broken(0, 1) = -4", "heap(1, 1) = 0", "broken(0, 0..) = 1 1");
        // the 8 that is taken up comes to lie ahead, where its joint may be
        edges.run("roof(\"w5 6 1;w10 2 1;w8 2 1;r10;r18;\") = 5", "lay(0, [0 0]) = 0", "lay(1, [1 2]) = 0", "heap(0, 2) = 4",
            "heap(1, 0) = 1", "heap(2, 0) = 1", "broken(1, 0..) = 2 -4");
        // not a little more, not a little less than the gap
        edges.run("roof(\"w10 9 1;w9 9 1;w11 9 1;r20;\") = 4", "lay(0, [0 0]) = 0", "heap(0, 0) = 7", "broken(0, 0..) = 2 2",
            "heap(1, 0) = 9", "broken(0, 0..) = -4 -4", "heap(2, 0) = 9", "heap(1, 9) = 0", "broken(0, 0..) = -4 -4");
        // a full heap takes what is taken up, too
        edges.run("roof(\"w5 12 1;w11 1 1;r21;\") = 3", "lay(0, [0 0 1]) = 0", "heap(0, 12) = 10", "broken(0, 0..) = 1 1 -4");
        edges.says(23, "with JOINTS within it that may be (its ends are not asked)");
        edges.run("roof(\"w5 6 1;w10 6 1;r20;r20;\") = 4", "lay(1, [1 1]) = 0", "lay(0, [1 1]) = 0", "broken(1, 0..) = 1 1",
            "heap(1, 0) = 2", "broken(1, 0..) = 1 1", "lap(5) = 3", "broken(1, 0..) = 1 1", "lap(6) = 5",
            "broken(1, 0..) = -4 -4", "broken(0, 0..) = 1 1", "lap(0) = 6", "broken(1, 0) = 1");
        // at the length of the row nothing is asked, though the row below has a joint there
        edges.run("roof(\"w10 6 1;w5 6 1;r30;r20;\") = 4", "lay(0, [0 0 0]) = 0", "lay(1, [1 0 1]) = 0", "heap(0, 0) = 2",
            "broken(1, 2) = 1");
        edges.says(23, "-4: none.");
        edges.run("roof(\"w10 2 1;r20;\") = 2", "lay(0, [0 0]) = 0", "broken(0, 0..) = -4 -4 -1");
    }

    private void brokenAndCut() {
        edges.says(23, "(In mind.");
        edges.run("roof(\"w5 6 1;w10 6 1;r20;\") = 3", "lay(0, [1 0 0]) = 0", "broken(0, 0..) = 1 1 1", "rowOf(0, 1) = 3",
            "width(0.., 1) = 4 5", "slate(0, 0..) = 1 0 0 -4");
        edges.says(23, "The last one CUT counts by what it covers");
        edges.run("roof(\"w10 9 1;w5 1 1;r15;\") = 3", "lay(0, [0 0]) = 5", "broken(0, 1) = 1", "heap(1, 0) = 1",
            "broken(0, 0..) = 1 -4");
        edges.run("roof(\"w9 1 1;w30 9 1;w10 1 1;r10;\") = 4", "lay(0, [0 1]) = 29", "broken(0, 0..) = 2 2 -1", "heap(2, 0) = 1",
            "broken(0, 0..) = -4 -4");
        edges.says(23, "and is gone as it is taken up");
        edges.run("roof(\"w10 2 1;w5 1 1;r15;\") = 3", "lay(0, [0 0]) = 5", "broken(0, 0..) = -4 1", "heap(0, 1) = 0",
            "broken(0, 0..) = 1 1");
        // the same row, but the last one is not cut
        edges.run("roof(\"w10 1 1;w5 2 1;w15 1 1;r15;r25;\") = 5", "lay(0, [0 1]) = 0", "heap(1, 0) = 1", "heap(2, 0) = 1",
            "broken(0, 0..) = -4 -4", "heap(1, 2) = 0", "broken(0, 0..) = 1 1");
        edges.says(23, "those that fill are whole.)");
        edges.run("roof(\"w10 9 1;w7 2 1;w5 1 1;r14;\") = 4", "lay(0, [2 0]) = 1", "broken(0, 0..) = 2 2", "heap(1, 1) = 2",
            "broken(0, 0..) = -4 -4");
    }

    private void rowsThatAreNotThere() {
        String[][] calls = {{"13", "fills(", ")"}, {"14", "first(", ", 0)"}, {"15", "best(", ", -1)"}, {"16", "cuts(", ", -1)"},
            {"17", "uses(", ", 0)"}, {"18", "needs(", ", 0)"}, {"19", "ends(", ", 0)"}};
        for (String[] call : calls) {
            edges.says(Integer.parseInt(call[0]), "-1 no such thing");
            edges.run("roof(\"w10 9 1;r10;r11;r10;r10;r11;r10;\") = 7", call[1] + "-1" + call[2] + " = -1",
                call[1] + "6" + call[2] + " = -1", call[1] + "MIN" + call[2] + " = -1", call[1] + "MAX" + call[2] + " = -1");
            edges.run(call[1] + "0" + call[2] + " = -1", "roof(\"w10 9 1;r10;\") = 2", call[1] + "1" + call[2] + " = -1");
        }
    }

    private void widthsThatAreNotThere() {
        String[][] calls = {{"17", "uses"}, {"18", "needs"}, {"19", "ends"}};
        for (String[] call : calls) {
            edges.says(Integer.parseInt(call[0]), "a number out of range");
            edges.run("roof(\"r10;\") = 1", call[1] + "(0, 0) = -1", "roof(\"w10 9 1;w11 9 1;w12 9 1;w13 9 1;\") = 4",
                call[1] + "(0, 4) = -1", call[1] + "(0, -1) = -1", call[1] + "(0, MIN) = -1", call[1] + "(0, MAX) = -1",
                call[1] + "(0, 3) = 0");
        }
    }
}
