/** Edges of promises 28 to 34: shelves. */
final class ShelvesEdges {
    private final Edges edges;

    ShelvesEdges(Edges edges) {
        this.edges = edges;
    }

    void all() {
        shelves();
        kinds();
        keep();
        row();
        lowestBits();
        put();
        element();
        copy();
        refusalsOfCopy();
        toil();
        toss();
    }

    private void shelves() {
        edges.says(28, "SHELVES 0 .. 7 each hold nothing (at first), a LAYING, a ROW of numbers.");
        edges.run("toss(-1..) = -1 -11 -11 -11 -11 -11 -11 -11 -11 -1",
            "toil(0..) = -1000000011 -1000000011 -1000000011 -1000000011 -1000000011 -1000000011 -1000000011 -1000000011 -1000000001");
        edges.run("keep(-1.., 1, 0, 1) = -1 0 0 0 0 0 0 0 0 -1", "toss(0..) = 1 1 1 1 1 1 1 1 -1");
        edges.run("row(-1.., 2, 1) = -1 0 0 0 0 0 0 0 0 -1", "put(0.., 0, 5) = 0 0 0 0 0 0 0 0 -1",
            "element(0.., 0) = 5 5 5 5 5 5 5 5 throws.IllegalArgumentException");
        // each is a shelf of its own
        edges.run("keep(3, 1, 1, 4) = 0", "row(4, 2, 2) = 0", "put(4, 1, 7) = 0",
            "toil(2..) = -1000000011 6 -1000000012 -1000000011");
    }

    private void kinds() {
        edges.says(28,
            "LAYINGS (on SHELVES) are of KINDS: 0 LAYING; 1 ANY under LAYING; 2 HANDED under LAYING; "
            + "3 SORTED under ANY; 4 CUT under LAYING; 5 MANY under HANDED; 6 TOLD under SORTED");
        edges.run("keep(0, 1, -1, 1) = -1", "toil(0) = -1000000011", "keep(0, 1, 7, 1) = -1", "toil(0) = -1000000011",
            "keep(0, 1, MIN, 1) = -1", "keep(0, 1, MAX, 1) = -1", "keep(0, 1, 0.., 1) = 0 0 0 0 0 0 0 -1", "toss(0) = 203");
        edges.says(28, "each with a FIGURE (0 .. 9).");
        edges.run("keep(0, 1, 0, -1) = -1", "keep(0, 1, 0, 10) = -1", "keep(0, 1, 0, MIN) = -1", "keep(0, 1, 0, MAX) = -1",
            "toss(0) = -11", "keep(0, 1, 0, 9) = 0", "toss(0) = 9", "keep(0, 1, 0, 10) = -1", "toss(0) = 9",
            "keep(0, 1, 0, 0) = 0", "toss(0) = -15");
    }

    private void keep() {
        edges.says(28, "SHELF d gets: what = 0 nothing (the others do not matter)");
        edges.run("keep(0, 0, 0, 0) = 0", "keep(0, 1, 0, 1) = 0", "keep(0, 0, -1, 99) = 0", "toss(0) = -11", "row(0, 2, 2) = 0",
            "keep(0, 0, MIN, MAX) = 0", "put(0, 0, 1) = -11", "keep(0, 0, 7, 10) = 0");
        edges.says(28, "1 a LAYING of KIND k with a FIGURE: 0.");
        edges.run("keep(0, 1, 1, 9) = 0", "toil(0) = 11", "keep(0, 1, 5, 0) = 0", "toil(0) = 6", "row(0, 2, 2) = 0",
            "keep(0, 1, 4, 9) = 0", "toil(0) = -7", "put(0, 0, 1) = -12");
        edges.says(28, "-1.");
        edges.run("keep(-1, 0, 0, 0) = -1", "keep(8, 0, 0, 0) = -1", "keep(8, 1, 0, 0) = -1", "keep(MIN, 0, 0, 0) = -1",
            "keep(MAX, 0, 0, 0) = -1", "keep(0, 1, 0, 1) = 0", "keep(0, 2, 0, 2) = -1", "keep(0, -1, 0, 2) = -1",
            "keep(0, MIN, 0, 2) = -1", "keep(0, MAX, 0, 2) = -1", "toss(0) = 1");
    }

    private void row() {
        edges.says(29, "A ROW of numbers has a SORT (0 bytes, 1 shorts, 2 ints) and 0 .. 100 elements, 0 at first");
        edges.run("row(0, -1, 1) = -1", "row(0, 3, 1) = -1", "row(0, MIN, 1) = -1", "row(0, MAX, 1) = -1", "toss(0) = -11",
            "row(0.., 0, 1) = 0", "row(1, 1, 1) = 0", "row(2, 2, 1) = 0", "put(0.., 0, 65664) = 0 0 0",
            "element(0.., 0) = -128 128 65664");
        edges.run("row(0, 2, 0) = 0", "put(0, 0, 1) = -13", "element(0, 0) = throws.IllegalStateException", "row(0, 2, 1) = 0",
            "put(0, 0, 1) = 0", "put(0, 1, 1) = -13");
        edges.run("row(0, 2, 100) = 0", "put(0, 99, 1) = 0", "put(0, 100, 1) = -13",
            "element(0, 98..) = 0 1 throws.IllegalStateException");
        edges.run("row(0, 2, 3) = 0", "put(0, 0.., 9) = 0 0 0 -13", "row(0, 2, 3) = 0", "element(0, 0..) = 0 0 0",
            "put(0, 0.., 9) = 0 0 0", "keep(0, 0, 0, 0) = 0", "row(0, 1, 3) = 0", "element(0, 0..) = 0 0 0", "put(0, 2, 9) = 0",
            "row(0, 1, 1) = 0", "row(0, 1, 3) = 0", "element(0, 0..) = 0 0 0");
        edges.says(29, "SHELF d gets a ROW of numbers of a SORT: 0.");
        edges.run("row(0, 0, 3) = 0", "keep(1, 1, 1, 1) = 0", "row(1, 0, 3) = 0", "toil(1) = -1000000012",
            "copy(0, 0, 1, 0, 3) = 3");
        edges.says(29, "-1 (n above 100); -14.");
        edges.run("row(0, 2, 101) = -1", "row(0, 2, MAX) = -1", "row(0, 2, -1) = -14", "row(0, 2, MIN) = -14", "toss(0) = -11",
            "row(0, 2, 2) = 0", "put(0, 1, 7) = 0", "row(0, 2, 101) = -1", "row(0, 2, -1) = -14", "row(-1, 2, 1) = -1",
            "row(8, 2, 1) = -1", "row(MIN, 2, 1) = -1", "row(MAX, 2, 1) = -1",
            "element(0, 0..) = 0 7 throws.IllegalStateException");
    }

    private void lowestBits() {
        edges.says(30, "what is put in keeps its lowest bits.");
        edges.run("row(0, 0, 1) = 0", "put(0, 0, 127) = 0", "element(0, 0) = 127", "put(0, 0, 128) = 0", "element(0, 0) = -128",
            "put(0, 0, 255) = 0", "element(0, 0) = -1", "put(0, 0, 256) = 0", "element(0, 0) = 0", "put(0, 0, 257) = 0",
            "element(0, 0) = 1", "put(0, 0, -128) = 0", "element(0, 0) = -128", "put(0, 0, -129) = 0", "element(0, 0) = 127",
            "put(0, 0, MIN) = 0", "element(0, 0) = 0", "put(0, 0, MAX) = 0", "element(0, 0) = -1");
        edges.run("row(0, 1, 1) = 0", "put(0, 0, 32767) = 0", "element(0, 0) = 32767", "put(0, 0, 32768) = 0",
            "element(0, 0) = -32768", "put(0, 0, 65535) = 0", "element(0, 0) = -1", "put(0, 0, 65536) = 0", "element(0, 0) = 0",
            "put(0, 0, 65537) = 0", "element(0, 0) = 1", "put(0, 0, -32768) = 0", "element(0, 0) = -32768",
            "put(0, 0, -32769) = 0", "element(0, 0) = 32767", "put(0, 0, MIN) = 0", "element(0, 0) = 0", "put(0, 0, MAX) = 0",
            "element(0, 0) = -1");
        edges.run("row(0, 2, 1) = 0", "put(0, 0, MAX) = 0", "element(0, 0) = 2147483647", "put(0, 0, MIN) = 0",
            "element(0, 0) = -2147483648", "put(0, 0, -1) = 0", "element(0, 0) = -1", "put(0, 0, 65536) = 0",
            "element(0, 0) = 65536");
    }

    private void put() {
        edges.says(30, "Element i of it becomes v: 0.");
        edges.run("row(0, 2, 3) = 0", "put(0, 0, 4) = 0", "put(0, 2, 6) = 0", "element(0, 0..) = 4 0 6", "put(0, 1, 5) = 0",
            "element(0, 0..) = 4 5 6", "put(0, 1, 0) = 0", "element(0, 0..) = 4 0 6");
        edges.says(30, "-13 a place that isn't there");
        edges.run("put(0:[4 5], -1, 9) = -13", "put(0, 2, 9) = -13", "put(0, MIN, 9) = -13", "put(0, MAX, 9) = -13",
            "put(1:[], 0, 9) = -13", "element(0, 0..) = 4 5 throws.IllegalStateException");
        edges.says(30, "-1, -11, -12, -13.");
        edges.run("put(-1, 0, 1) = -1", "put(8, 0, 1) = -1", "put(MIN, 0, 1) = -1", "put(MAX, 0, 1) = -1", "put(0, 0, 1) = -11",
            "put(<0 0>, 0, 1) = -12", "put([4], 1, 1) = -13", "put(6, 0, 1) = 0");
    }

    private void element() {
        edges.says(31, "Element i of it.");
        edges.run("element(0:[4 5]b, 0..) = 4 5", "element(0:[4 5]s, 0..) = 4 5", "element(7:[4 5], 0..) = 4 5");
        edges.says(31, "IllegalArgumentException: no such SHELF");
        edges.run("element(-1, 0) = throws.IllegalArgumentException", "element(8, 0) = throws.IllegalArgumentException",
            "element(MIN, 0) = throws.IllegalArgumentException", "element(MAX, 0) = throws.IllegalArgumentException",
            "element(8, -1) = throws.IllegalArgumentException");
        edges.says(31, "IllegalStateException: no ROW of numbers, no such place.");
        edges.run("element(0, 0) = throws.IllegalStateException", "element(7, 0) = throws.IllegalStateException",
            "element(<0 0>, 0) = throws.IllegalStateException", "element([4 5], -1) = throws.IllegalStateException",
            "element(6, 2) = throws.IllegalStateException", "element(6, MIN) = throws.IllegalStateException",
            "element(6, MAX) = throws.IllegalStateException", "element([], 0) = throws.IllegalStateException");
    }

    private void copy() {
        edges.says(32, "n elements of that in SHELF d from i on come to that in SHELF e from j on: n.");
        edges.run("element(0:[1 2 3 4 5], 4) = 5", "element(1:[6 7 8], 2) = 8", "copy(0, 3, 1, 1, 2) = 2",
            "element(1, 0..) = 6 4 5", "copy(1, 0, 0, 0, 1) = 1", "element(0, 0..) = 6 2 3 4 5", "copy(0, 0, 1, 0, 3) = 3",
            "element(1, 0..) = 6 2 3", "copy(0, 4, 1, 2, 1) = 1", "element(1, 0..) = 6 2 5");
        for (String sort : new String[] {"b", "s", ""}) {
            edges.run("element(0:[1 -2]" + sort + ", 1) = -2", "element(7:[6 7]" + sort + ", 1) = 7", "copy(0, 0, 7, 0, 2) = 2",
                "element(7, 0..) = 1 -2");
        }
        // onto itself: what was there when it began comes
        edges.run("element(0:[1 2 3 4 5], 4) = 5", "copy(0, 0, 0, 1, 4) = 4", "element(0, 0..) = 1 1 2 3 4",
            "copy(0, 1, 0, 0, 4) = 4", "element(0, 0..) = 1 2 3 4 4", "copy(0, 0, 0, 0, 5) = 5", "element(0, 0..) = 1 2 3 4 4");
        edges.run("row(0, 0, 100) = 0", "put(0, 99, 3) = 0", "row(1, 0, 100) = 0", "copy(0, 0, 1, 0, 100) = 100",
            "element(1, 99) = 3", "copy(0, 0, 1, 0, 101) = -13");
    }

    private void refusalsOfCopy() {
        edges.says(32, "(n below 0, too; n 0 at the end is well).");
        edges.run("element(0:[1 2], 0) = 1", "element(1:[3], 0) = 3", "copy(0, 2, 1, 1, 0) = 0", "copy(0, 3, 1, 1, 0) = -13",
            "copy(0, 2, 1, 2, 0) = -13", "copy(0, 0, 1, 0, -1) = -13", "copy(0, 1, 1, 1, -1) = -13", "copy(0, 0, 1, 0, 0) = 0",
            "copy(0, 0, 1, 0, MIN) = -13", "element(1, 0..) = 3 throws.IllegalStateException");
        edges.run("element(0:[], 0) = throws.IllegalStateException", "copy(0, 0, 0, 0, 0) = 0", "copy(0, 0, 0, 0, 1) = -13",
            "copy(0, 1, 0, 0, 0) = -13");
        edges.says(32, "-1, -11 (either), -12 (no two of one SORT), -13");
        edges.run("copy(-1, 0, 0, 0, 0) = -1", "copy(0, 0, -1, 0, 0) = -1", "copy(8, 0, 0, 0, 0) = -1",
            "copy(0, 0, 8, 0, 0) = -1", "copy(MIN, 0, MAX, 0, 0) = -1", "copy(0, 0, 0, 0, 0) = -11");
        edges.run("element(0:[1 2], 0) = 1", "copy(0, 0, 1, 0, 1) = -11", "copy(1, 0, 0, 0, 1) = -11",
            "copy(1, 0, 2, 0, 1) = -11");
        edges.run("element(0:[1 2]b, 0) = 1", "element(1:[1 2]s, 0) = 1", "element(2:[1 2], 0) = 1", "toil(3:<0 0>) = 2",
            "copy(0, 0, 1, 0, 1) = -12", "copy(1, 0, 0, 0, 1) = -12", "copy(0, 0, 2, 0, 1) = -12", "copy(2, 0, 1, 0, 1) = -12",
            "copy(0, 0, 3, 0, 1) = -12", "copy(3, 0, 0, 0, 1) = -12", "copy(3, 0, 3, 0, 0) = -12", "copy(0, 0, 1, 0, 0) = -12");
        edges.run("element(0:[1 2 3], 0) = 1", "element(1:[4 5], 0) = 4", "copy(0, -1, 1, 0, 1) = -13",
            "copy(0, 0, 1, -1, 1) = -13", "copy(0, 2, 1, 0, 2) = -13", "copy(0, 0, 1, 1, 2) = -13", "copy(0, 3, 1, 0, 1) = -13",
            "copy(0, 0, 1, 2, 1) = -13", "copy(0, MAX, 1, 0, MAX) = -13", "copy(0, 1, 1, 1, MAX) = -13",
            "copy(0, MIN, 1, MIN, MAX) = -13", "element(0, 0..) = 1 2 3", "element(1, 0..) = 4 5");
    }

    private void toil() {
        String[] words = {"TOIL of a LAYING: LAYING 2", "ANY a LAYING's and FIGURE", "HANDED three times a LAYING's",
            "SORTED an ANY's and 4", "CUT a LAYING's less FIGURE", "MANY a HANDED's and FIGURE", "TOLD half of a SORTED's, cut."};
        String[] toils = {"2 2 2 2 2 2 2 2 2 2", "2 3 4 5 6 7 8 9 10 11", "6 6 6 6 6 6 6 6 6 6",
            "6 7 8 9 10 11 12 13 14 15", "2 1 0 -1 -2 -3 -4 -5 -6 -7", "6 7 8 9 10 11 12 13 14 15",
            "3 3 4 4 5 5 6 6 7 7"};
        for (int kind = 0; kind < 7; kind++) {
            edges.says(33, words[kind]);
            String[] lines = new String[10];
            for (int figure = 0; figure < 10; figure++) {
                lines[figure] = "toil(<" + kind + " " + figure + ">) = " + toils[kind].split(" ")[figure];
            }
            edges.run(lines);
        }
        edges.says(33, "\"a and b\" of two numbers is their sum");
        edges.run("toil(<1 9>) = 11", "toil(<3 9>) = 15", "toil(<5 9>) = 15");
        edges.says(33, "TOIL of the LAYING on SHELF d.");
        edges.run("toil(0:<1 1>) = 3", "toil(7:<1 2>) = 4", "toil(0) = 3");
        edges.says(33, "-1000000001, -1000000011, -1000000012 (a ROW of numbers).");
        edges.run("toil(-1) = -1000000001", "toil(8) = -1000000001", "toil(MIN) = -1000000001", "toil(MAX) = -1000000001",
            "toil(0) = -1000000011", "toil([]) = -1000000012", "toil([1 2]b) = -1000000012");
    }

    private void toss() {
        edges.says(34, "The FAILURE of the LAYING on SHELF d is thrown, and caught: its FIGURE");
        for (int kind : new int[] {0, 1, 3}) {
            edges.run("toss(<" + kind + " 1>) = 1", "toss(<" + kind + " 9>) = 9", "toss(5) = 9 9");
        }
        edges.says(34, "of HANDED and MANY ones 100 more");
        edges.run("toss(<2 1>) = 101", "toss(<2 9>) = 109", "toss(<5 1>) = 101", "toss(<5 9>) = 109");
        edges.says(34, "of TOLD ones 200 plus their TOIL, in place of all that (FIGURE, too).");
        edges.run("toss(<6 1>) = 203", "toss(<6 2>) = 204", "toss(<6 3>) = 204", "toss(<6 9>) = 207");
        edges.says(34, "-15: CUT ones, and any with FIGURE 0 (TOLD ones, too), have none.");
        edges.run("toss(<4 0>) = -15", "toss(<4 1>) = -15", "toss(<4 9>) = -15", "toss(<0 0>) = -15", "toss(<1 0>) = -15",
            "toss(<2 0>) = -15", "toss(<3 0>) = -15", "toss(<5 0>) = -15", "toss(<6 0>) = -15");
        edges.says(34, "-15 a FAILURE that is none.");
        edges.run("toss(0:<0 0>) = -15", "toss(0:<0 1>) = 1");
        edges.says(34, "-1, -11, -12 (a ROW of numbers)");
        edges.run("toss(-1) = -1", "toss(8) = -1", "toss(MIN) = -1", "toss(MAX) = -1", "toss(0) = -11", "toss([]) = -12",
            "toss([1 2]b) = -12");
    }
}
