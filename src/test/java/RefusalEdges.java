/** Which of several refusals is told, and what each of them means; that none changes anything is held by every run. */
final class RefusalEdges {
    /** Row 0 is laid, row 1 is not; shelf 1 holds nothing, 5 a laying, 6 numbers that fill row 1. */
    private static final String[] BEGIN = {"roof(\"w20 9 1;w7 0 1;r20;r20;r21;r20;\") = 6", "lay(0, [0]) = 0", "toil(<0 1>) = 2"};

    private static final String FIRST_TOLD = "Answers of several refusals are the first one as they are told at the call";
    private static final String NONE_LAST = "(-4 behind all others)";

    private final Edges edges;

    RefusalEdges(Edges edges) {
        this.edges = edges;
    }

    void all() {
        meanings();
        firstAsTold();
        noneBehindAllOthers();
        changesNothing();
    }

    private void begun(String... lines) {
        edges.runBehind(BEGIN, lines);
    }

    private void meanings() {
        edges.says(30, "Their REFUSALS: -11 nothing is held where something is wanted");
        edges.run("put(0, 0, 0) = -11", "roof(0) = -11", "toss(0) = -11", "copy(0, 0, 0, 0, 0) = -11",
            "roof(\"w10 9 1;r10;\") = 2", "judge(0, 0) = -11", "lay(0, 0) = -11", "by(0, 0, 0, 0) = -11", "keep(0, 1, 0, 0) = 0",
            "toss(0) = -15", "keep(0, 0, 0, 0) = 0", "toss(0) = -11");
        edges.says(30, "-12 it is of another kind");
        edges.run("put(<0 0>, 0, 0) = -12", "roof(5) = -12", "copy(5, 0, 5, 0, 0) = -12", "toss([1]) = -12",
            "roof(\"w10 9 1;r10;\") = 2", "judge(0, 5) = -12", "lay(0, 5) = -12", "by(0, 6, 0, 0) = -12");
        edges.says(29, "-14 a size below 0");
        edges.run("row(0, 0, -1) = -14", "row(0, 0, 0) = 0", "row(0, 0, -1) = -14", "put(0, 0, 0) = -13");
        edges.says(2, "-2 no room");
        // no call tells it of itself: in a text it is a fault of kind 2
        edges.run("roof(\"w5 1 1;w6 1 1;w7 1 1;w8 1 1;\") = 4", "roof(\"w9 1 1;\") = -2000");
        edges.says(12, "-3 it can't be as things stand");
        begun("takeUp(1) = -3", "restore() = -3", "fills(0) = -3", "lay(0, 6) = -3", "two(0, 2) = -3");
        edges.says(7, "-4 none; -11 to -15.");
        begun("slate(0, 1) = -4", "slate(1, 0) = -4", "first(2, 0) = -4", "two(1, 3) = 2", "lay(1, 1) = -11", "lay(1, 5) = -12",
            "put(6, 1, 0) = -13", "row(6, 0, -1) = -14", "toss(<4 1>) = -15");
        edges.says(6, "or not as told");
        begun("rowOf(0, 3) = -1", "two(1, 1) = -1", "all(2) = -1", "by(1, 5, 0, 3) = -1", "keep(5, 2, 0, 0) = -1",
            "row(6, 0, 101) = -1");
    }

    private void firstAsTold() {
        edges.says(10, FIRST_TOLD);
        // -1 ahead of -3, -3 ahead of -11 and -12
        begun("judge(0, 8) = -1", "judge(0, -1) = -1", "judge(0, 1) = -3", "judge(0, 5) = -3", "judge(0, 6) = -3");
        edges.says(11, FIRST_TOLD);
        begun("lay(0, 8) = -1", "lay(0, -1) = -1", "lay(0, 1) = -3", "lay(0, 5) = -3", "lay(0, 6) = -3", "lay(0, []) = -3",
            "lay(1, 1) = -11", "lay(1, 5) = -12");
        edges.says(14, FIRST_TOLD);
        begun("first(0, -1) = -1", "first(0, 0) = -3");
        edges.says(15, FIRST_TOLD);
        begun("best(0, -2) = -1", "best(0, -1) = -3");
        edges.says(16, FIRST_TOLD);
        begun("cuts(0, -2) = -1", "cuts(0, -1) = -3");
        edges.says(17, FIRST_TOLD);
        begun("uses(0, -1) = -1", "uses(0, 2) = -1", "uses(0, 1) = -3");
        edges.says(18, FIRST_TOLD);
        begun("needs(0, -1) = -1", "needs(0, 2) = -1", "needs(0, 1) = -3");
        edges.says(19, FIRST_TOLD);
        begun("ends(0, -1) = -1", "ends(0, 2) = -1", "ends(0, 1) = -3");
        edges.says(21, FIRST_TOLD);
        begun("two(0, 0) = -1", "two(0, 1) = -1", "two(1, 0) = -1", "two(0, 4) = -1", "two(4, 0) = -1", "two(0, 3) = -3");
        edges.says(24, FIRST_TOLD);
        begun("by(0, 8, 0, 0) = -1", "by(0, 5, 0, 3) = -1", "by(0, 1, 0, 3) = -1", "by(0, 6, 0, -1) = -1", "by(1, 1, 0, 3) = -1",
            "by(1, 6, 0, 3) = -1", "by(0, 1, 0, 0) = -3", "by(0, 6, 0, 0) = -3", "by(0, 5, 0, 0) = -3");
        edges.says(29, FIRST_TOLD);
        edges.run("row(8, 0, -1) = -1", "row(-1, 0, -1) = -1", "row(0, 3, -1) = -1", "row(0, -1, -1) = -1",
            "row(0, 0, -1) = -14");
        edges.says(30, FIRST_TOLD);
        edges.run("put(8, -1, 0) = -1", "put(1, -1, 0) = -11", "put(<0 0>, -1, 0) = -12", "put([], -1, 0) = -13");
        edges.says(32, FIRST_TOLD);
        edges.run("toil(0:<0 0>) = 2", "element(1:[1]b, 0) = 1", "element(2:[1]s, 0) = 1", "copy(8, 0, 3, 0, 0) = -1",
            "copy(3, 0, 8, 0, 0) = -1", "copy(0, 0, 8, 0, 0) = -1", "copy(1, 9, -1, 0, 0) = -1", "copy(0, 0, 3, 0, 0) = -11",
            "copy(3, 0, 0, 0, 0) = -11", "copy(1, 9, 3, 0, 0) = -11", "copy(1, 0, 2, 0, -1) = -12", "copy(1, 9, 2, 0, 0) = -12",
            "copy(0, 9, 1, 0, 0) = -12", "copy(1, 0, 0, 9, 0) = -12", "copy(1, 9, 1, 0, 0) = -13");
        edges.says(31, FIRST_TOLD);
        edges.run("element(8, -1) = throws.IllegalArgumentException", "element(-1, 0) = throws.IllegalArgumentException");
    }

    private void noneBehindAllOthers() {
        edges.says(7, NONE_LAST);
        begun("slate(1, -1) = -1", "slate(4, 0) = -1", "slate(0, -1) = -1");
        edges.says(8, NONE_LAST);
        begun("joint(1, -1) = -1", "joint(4, 0) = -1", "joint(0, -1) = -1");
        edges.says(10, NONE_LAST);
        begun("judge(0, 6) = -3", "judge(1, 6) = -4");
        edges.says(14, NONE_LAST);
        begun("first(2, -1) = -1", "first(0, 9) = -3", "first(2, 0) = -4");
        edges.says(15, NONE_LAST);
        begun("best(2, -2) = -1", "best(0, 9) = -3", "best(2, -1) = -4");
        edges.says(16, NONE_LAST);
        begun("cuts(1, -2) = -1", "cuts(0, 9) = -3", "cuts(1, -1) = -4");
        edges.says(18, NONE_LAST);
        begun("needs(2, 2) = -1", "needs(2, 0) = -4", "takeUp(0) = 1", "lap(0) = 3", "lay(2, [0 0]) = 19", "needs(2, 0) = -3");
        edges.says(21, NONE_LAST);
        begun("two(2, 2) = -1", "two(2, 0) = -3", "two(0, 2) = -3", "takeUp(0) = 1", "two(0, 2) = -4");
        edges.says(23, NONE_LAST);
        begun("heap(0, 0) = 8", "broken(0, 1) = -1", "broken(0, -1) = -1", "broken(1, 0) = -1", "broken(0, 0) = -4");
        edges.says(24, NONE_LAST);
        begun("by(2, 5, 0, 3) = -1", "by(2, 8, 0, 0) = -1", "by(2, 1, 0, 0) = -11", "by(2, 6, 0, 0) = -12", "by(2, 5, 0, 0) = -4",
            "heap(0, 0) = 8", "by(0, 5, 0, 0) = -3");
    }

    /** Each call that changes something, refused in each way, with all that there is to be changed. */
    private void changesNothing() {
        edges.says(2, "A refused call changes nothing.");
        String[] full = {"roof(\"w20 9 1;w10 3 4;r20;r30;l4;\") = 5", "lay(0, [1 1]) = 0", "image() = 2", "lap(2) = 4",
            "lay(1, [0 0]) = 10", "toil(<5 3>) = 9", "element(4:[3 4]b, 1) = 4"};
        String[][] refused = {
            {"roof(\"r10;r9;\") = -2004", "roof(\"w5 1 1;l0;r10\") = -1013", "roof(5) = -12", "roof(6) = -12", "roof(0) = -11",
                "roof(8) = -1"},
            {"heap(0, 13) = -1", "heap(1, -1) = -1", "heap(2, 1) = -1", "lap(21) = -1", "lap(-1) = -1"},
            {"lay(0, [0]) = -3", "lay(2, 6) = -1", "lay(1, 8) = -1", "takeUp(1) = 1", "lay(1, 0) = -11", "lay(1, 5) = -12",
                "lay(1, [1 0]) = -3", "lay(1, [0 0 0]) = -3", "lay(1, [0]) = -3", "takeUp(1) = -3", "takeUp(2) = -1"},
            {"keep(5, 1, 7, 0) = -1", "keep(5, 1, 0, 10) = -1", "keep(5, 2, 0, 0) = -1", "keep(8, 0, 0, 0) = -1",
                "row(5, 0, 101) = -1", "row(5, 0, -1) = -14", "row(4, 3, 1) = -1", "row(4, 1, -1) = -14"},
            {"put(4, 2, 9) = -13", "put(4, -1, 9) = -13", "put(5, 0, 9) = -12", "put(0, 0, 9) = -11", "put(8, 0, 9) = -1",
                "copy(4, 0, 6, 0, 1) = -12", "copy(4, 1, 4, 0, 2) = -13", "copy(4, 0, 4, 1, 2) = -13",
                "copy(4, 0, 4, 1, -1) = -13", "copy(4, 0, 5, 0, 1) = -12", "copy(4, 0, 0, 0, 1) = -11"}};
        for (String[] calls : refused) {
            edges.runBehind(full, calls);
        }
        edges.run("roof(\"w5 1 1;r10;\") = 2", "restore() = -3", "count(0..) = 1 1 3 1 0 1");
    }
}
