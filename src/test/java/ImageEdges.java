/** Edges of promises 25 to 27: the image, what is told. */
final class ImageEdges {
    private final Edges edges;

    ImageEdges(Edges edges) {
        this.edges = edges;
    }

    void all() {
        image();
        restore();
        shelvesStay();
        count();
    }

    private void image() {
        edges.says(25, "THE IMAGE is taken: how many ROWS.");
        edges.run("image() = 0", "roof(\"r10;\") = 1", "image() = 1", "roof(\"r10;r10;r10;r10;r10;\") = 5", "image() = 6",
            "restore() = 6");
        // a later image in place of the one ahead of it
        edges.run("roof(\"r10;\") = 1", "image() = 1", "lap(5) = 3", "image() = 1", "lap(7) = 5", "restore() = 1",
            "count(2) = 5");
    }

    private void restore() {
        edges.says(26, "THE IMAGE is RESTORED: how many ROWS.");
        edges.run("roof(\"r10;r11;\") = 2", "image() = 2", "roof(\"r12;\") = 1", "restore() = 2 2", "rowOf(0.., 0) = 10 11 -1");
        edges.says(26, "THE IMAGE: all that there is, but SHELVES (and THE IMAGE)");
        edges.run("roof(\"w10 6 2;r20;r30;l4;\") = 4", "lay(0, [0 0]) = 0", "image() = 2", "roof(\"w5 3 1;r12;l7;\") = 3",
            "takeUp(0) = 2", "lay(1, [0 1 1 0]) = 0", "heap(0, 11) = 4", "restore() = 2", "count(0..) = 1 2 4 4 1 8",
            "width(0, 0..) = 10 4 2", "slate(0, 0..) = 0 0 -4", "slate(1, 0) = -4", "may(1, 6..) = 1 0");
        // the last slate of the last row, where each row has as many as there may be
        String twelve = "[0 0 0 0 0 0 0 0 0 0 0 0]";
        edges.run("roof(\"w5 12 1;w6 12 1;r60;r60;r60;r60;r60;r60;l0;\") = 9", "lay(5, " + twelve + ") = 0", "heap(0, 12) = 0",
            "lay(1, " + twelve + ") = 0", "image() = 6", "takeUp(5) = 12", "takeUp(1) = 0", "lay(1, [1 1 1 1 1 1 1 1 1 1]) = 0",
            "heap(1, 12) = 2", "lay(5, [1 1 1 1 1 1 1 1 1 1]) = 0", "restore() = 6", "slate(1, 0..) = 0 0 0 0 0 0 0 0 0 0 0 0 -4",
            "slate(5, 0..) = 0 0 0 0 0 0 0 0 0 0 0 0 -4", "may(2, 55) = 1", "lap(1) = 0", "may(2, 55) = 0");
        // what is cut, too
        edges.run("roof(\"w30 2 1;r10;\") = 2", "lay(0, [0]) = 20", "image() = 1", "takeUp(0) = 0", "restore() = 1",
            "rowOf(0, 1..) = 1 20", "takeUp(0) = 0");
        edges.run("image() = 0", "roof(\"w5 1 1;r10;l9;\") = 3", "restore() = 0", "count(0..) = 0 0 3 0 0 0", "rowOf(0, 0) = -1",
            "width(0, 0) = -1");
        edges.says(26, "RESTORED all is as it was then.");
        // what is done behind the image does not reach it, and it can be restored again
        edges.run("roof(\"w10 6 2;r20;\") = 2", "image() = 1", "lay(0, [0 0]) = 0", "restore() = 1", "rowOf(0, 1) = 0",
            "width(0, 1) = 6", "heap(0, 1) = 6", "lap(0) = 3", "restore() = 1", "width(0, 1) = 6", "count(2) = 3");
        edges.run("roof(\"w10 6 2;r20;\") = 2", "image() = 1", "restore() = 1", "roof(\"r30;w5 1 1;\") = 2", "restore() = 1",
            "count(0..) = 1 1", "roof(\"w5 2 2;\") = 1", "width(1, 0..) = 5 2 2");
        edges.says(26, "-3: there is none.");
        edges.run("restore() = -3", "roof(\"w5 1 1;r10;l9;\") = 3", "restore() = -3", "count(0..) = 1 1 9 1", "image() = 1",
            "restore() = 1");
    }

    private void shelvesStay() {
        edges.says(26, "when THE IMAGE is RESTORED, SHELVES stay as they are.");
        edges.run("keep(0, 1, 1, 5) = 0", "put(1, 0, 0) = -11", "toss(2:<5 2>) = 102", "element(3:[7 8]s, 1) = 8", "image() = 0",
            "keep(0, 1, 1, 6) = 0", "element(1:[1 2]b, 1) = 2", "keep(2, 0, 0, 0) = 0", "put(3, 1, 9) = 0", "restore() = 0",
            "toil(0) = 8", "element(1, 0..) = 1 2 throws.IllegalStateException", "toss(2) = -11", "element(3, 0..) = 7 9");
    }

    private void count() {
        edges.says(27, "0 WIDTHS, 1 ROWS, 2 LAP, 3 slates in the heap, 4 ROWS that are laid, 5 the WORTH of the heap");
        edges.run("count(0..) = 0 0 3 0 0 0 -1");
        edges.run("roof(\"w10 12 99;w11 12 99;w12 12 99;w13 12 99;r10;r10;r10;r10;r10;r10;l20;\") = 11",
            "count(0..) = 4 6 20 48 0 4752 -1", "lay(0, [0]) = 0", "lay(5, [3]) = 3", "count(3..) = 46 2 4554", "takeUp(5) = 0",
            "count(3..) = 46 1 4554", "takeUp(0) = 1", "count(3..) = 47 0 4653");
        edges.run("roof(\"w10 0 99;w11 12 0;w12 1 1;\") = 3", "count(0..) = 3 0 3 13 0 1", "heap(0, 2) = 0",
            "count(3..) = 15 0 199");
        edges.says(27, "-1 for others.");
        edges.run("count(-1) = -1", "count(6) = -1", "count(MIN) = -1", "count(MAX) = -1");
    }
}
