/** Edges of promise 24: by. What is handed was reckoned apart from this program. */
final class ByEdges {
    /** 6, 5, 4 or 3 slates fill the row, by the width that is chosen. */
    private static final String RISING = "roof(\"w10 12 1;w12 12 1;w15 12 1;w20 12 1;r60;\") = 5";
    private static final String FALLING = "roof(\"w20 12 1;w15 12 1;w12 12 1;w10 12 1;r60;\") = 5";
    private static final int HANDED = 2;
    private static final int MANY = 5;

    private final Edges edges;

    ByEdges(Edges edges) {
        this.edges = edges;
    }

    void all() {
        tillItComesToItsLength();
        mayBeLaid();
        chosen();
        told();
        cut();
        handed();
        putAside();
        manyHanded();
        manyPutAside();
        stuck();
        whatIsAsked();
        refusals();
    }

    /** A call of row 0 for each seed, by what is put aside; the row is of one slate. */
    private void asides(String roof, int kind, int figure, String[] seeds, int... asides) {
        String[] lines = new String[seeds.length + 1];
        lines[0] = roof;
        for (int i = 0; i < seeds.length; i++) {
            String answers = asides[i] < 0 ? "-4 -4 -4" : "1 0 " + asides[i];
            lines[i + 1] = by(kind, figure, seeds[i], answers);
        }
        edges.run(lines);
    }

    private static String by(int kind, int figure, String seed, String answers) {
        return "by(0, <" + kind + " " + figure + ">, " + seed + ", 0..) = " + answers;
    }

    private static String[] seeds(String text) {
        return text.split(" ");
    }

    private void tillItComesToItsLength() {
        edges.says(24, "BY a LAYING with a seed z (in mind) a ROW not laid is laid slate by slate till it comes to its LENGTH");
        edges.run("roof(\"w10 12 1;w5 12 1;r10;r60;\") = 4", "by(0, <0 0>, 0, 0..) = 1 0 0 -1", "by(1, <3 0>, 0, 0..) = 12 0 0",
            "by(1, <0 0>, 0, 0..) = 6 0 0", "by(0, <2 9>, 5, 0) = 1 1 1", "rowOf(0, 1) = 0", "rowOf(1, 1) = 0",
            "width(0.., 1) = 12 12");
    }

    private void mayBeLaid() {
        edges.says(24, "at each place WIDTHS that the heap has and that may be laid");
        edges.run("roof(\"w10 2 1;w5 12 1;r30;\") = 3", "by(0, <0 0>, 0, 0) = 4", "heap(0, 3) = 2", "by(0, <0 0>, 0, 0) = 3",
            "heap(0, 0) = 3", "by(0, <0 0>, 0, 0) = 6", "heap(1, 5) = 12", "by(0, <0 0>, 0, 0) = -4");
        edges.says(24, "(their JOINT may be, or they end at the LENGTH just so; CUT: or beyond it)");
        // joint at 10 below: 7 and 13 may be, 8 and 12 may not
        edges.run("roof(\"w10 9 1;w13 9 1;w7 9 1;r20;r20;\") = 5", "lay(0, [0 0]) = 0", "by(1, <0 0>, 0, 0) = 2",
            "by(1, <1 0>, 0, 0) = 2", "lap(4) = 3", "by(1, <0 0>, 0, 0) = -4", "by(1, <1 0>, 0, 0) = -4",
            "by(1, <4 0>, 0, 0) = -4", "by(1, <2 9>, 0, 0) = -4", "by(1, <5 9>, 0, 0) = -4", "lap(0) = 4",
            "by(1, <0 0>, 0, 0) = 2");
        // a row that ends where the row below has a joint
        edges.run("roof(\"w10 9 1;w20 9 1;w5 9 1;r30;r20;\") = 5", "lay(0, [0 0 0]) = 0", "by(1, <0 0>, 0, 0) = 1",
            "by(1, <3 0>, 0, 0) = 3", "by(1, <4 0>, 0, 0..) = 1 0 0");
        edges.run("roof(\"w19 9 1;w20 9 1;w21 9 1;r20;\") = 4", "by(0, <0 0>, 0, 0) = -4", "by(0, <1 0>, 0, 0) = 1",
            "heap(1, 0) = 9", "by(0, <1 0>, 0, 0) = -4", "by(0, <4 0>, 0, 0..) = 1 1 0", "heap(2, 0) = 9",
            "by(0, <4 0>, 0, 0..) = 2 18 0");
    }

    private void chosen() {
        edges.says(24, "LAYING: the one of the least number");
        edges.run(RISING, by(0, 0, "0", "6 0 0"), by(0, 9, "5", "6 0 0"), "heap(0, 0) = 12", by(0, 0, "0", "5 0 0"));
        edges.run(FALLING, by(0, 0, "0", "3 0 0"), by(0, 9, "5", "3 0 0"), "heap(0, 0) = 12", by(0, 0, "0", "4 0 0"));
        edges.says(24, "ANY: the one of most INCHES");
        edges.run(RISING, by(1, 0, "0", "3 0 0"), by(1, 9, "5", "3 0 0"), "heap(3, 0) = 12", by(1, 0, "0", "4 0 0"));
        edges.run(FALLING, by(1, 0, "0", "3 0 0"), "heap(0, 0) = 12", by(1, 0, "0", "4 0 0"));
        edges.run("roof(\"w12 9 1;w20 9 1;r50;r52;\") = 4", by(1, 0, "0", "-4 -4 -4"), "by(1, 5, 0, 0..) = 3 0 0");
        edges.says(24, "SORTED: the one of fewest");
        edges.run(RISING, by(3, 0, "0", "6 0 0"), by(3, 9, "5", "6 0 0"), "heap(0, 0) = 12", by(3, 0, "0", "5 0 0"));
        edges.run(FALLING, by(3, 0, "0", "6 0 0"), "heap(3, 0) = 12", by(3, 0, "0", "5 0 0"));
    }

    private void told() {
        edges.says(24, "TOLD: the one whose number is nearest to FIGURE modulo 4");
        String[] lines = new String[11];
        lines[0] = RISING;
        for (int figure = 0; figure <= 9; figure++) {
            lines[figure + 1] = by(6, figure, "0", 6 - figure % 4 + " 0 0");
        }
        edges.run(lines);
        lines[0] = FALLING;
        for (int figure = 0; figure <= 9; figure++) {
            lines[figure + 1] = by(6, figure, "0", 3 + figure % 4 + " 0 0");
        }
        edges.run(lines);
        // the number of a width, not its inches; four numbers stand in a line, not in a ring
        edges.run(RISING, "heap(3, 0) = 12", by(6, 3, "0", "4 0 0"), "heap(2, 0) = 12", by(6, 3, "0", "5 0 0"), "heap(1, 0) = 12",
            by(6, 3, "0", "6 0 0"));
        edges.run(RISING, "heap(0, 0) = 12", by(6, 0, "0", "5 0 0"), by(6, 4, "0", "5 0 0"), "heap(1, 0) = 12",
            by(6, 0, "0", "4 0 0"), "heap(2, 0) = 12", by(6, 8, "0", "3 0 0"));
        edges.says(24, "(the lesser of two)");
        edges.run(RISING, "heap(1, 0) = 12", by(6, 1, "0", "6 0 0"), by(6, 5, "0", "6 0 0"), by(6, 9, "0", "6 0 0"),
            "heap(0, 0) = 12", by(6, 1, "0", "4 0 0"));
        edges.run(RISING, "heap(2, 0) = 12", by(6, 2, "0", "5 0 0"), by(6, 6, "0", "5 0 0"), "heap(1, 0) = 12",
            by(6, 2, "0", "3 0 0"), "heap(3, 0) = 12", by(6, 2, "0", "6 0 0"));
    }

    private void cut() {
        edges.says(24, "CUT: the one of most INCHES, also one that is CUT");
        edges.run("roof(\"w10 9 1;w20 9 1;r50;\") = 3", by(4, 0, "0", "3 10 0"), by(4, 9, "7", "3 10 0"), by(1, 0, "0", "3 0 0"),
            "heap(1, 2) = 9", by(4, 0, "0", "3 0 0"));
        edges.run("roof(\"w30 9 1;r10;\") = 2", by(4, 0, "0", "1 20 0"), by(1, 0, "0", "-4 -4 -4"));
        edges.run("roof(\"w30 9 1;r31;\") = 2", by(4, 0, "0", "2 29 0"), "heap(0, 1) = 9", by(4, 0, "0", "-4 -4 -4"));
        // the broad one's joint may not be
        edges.run("roof(\"w10 9 1;w7 9 1;r20;r20;\") = 4", "lay(0, [0 0]) = 0", "by(1, <4 0>, 0, 0..) = 3 7 0", "lap(0) = 3",
            "by(1, 5, 0, 0..) = 2 0 0");
    }

    private void handed() {
        edges.says(24, "HANDED: z becomes z times 1103515245 plus 12345 (an int)");
        String[] seeds = seeds("MIN -65536 -2 -1 0 1 2 3 7 65535 MAX");
        asides("roof(\"w20 11 1;w10 1 1;r10;\") = 3", HANDED, 9, seeds, 10, 11, 0, 9, 10, 5, 2, 0, 9, 11, 9);
        edges.says(24, "(z without its sign's bit over 65536, cut) modulo all slates in the heap tells one (by WIDTHS in order)");
        asides("roof(\"w10 1 1;w20 11 1;r10;\") = 3", HANDED, 9, seeds, 0, 1, 3, 8, 0, 6, 6, 8, 6, 9, 8);
        asides("roof(\"w10 12 1;w20 12 1;w29 12 1;w30 12 1;r10;\") = 5", HANDED, 9, seeds, 0, 6, 1, 4, 0, 3, 4, 1, 5, 2, 4);
        edges.says(24, "if it may be laid it is");
        edges.run("roof(\"w10 3 1;w20 2 1;r30;\") = 3", by(HANDED, 9, "0", "3 0 2"), by(HANDED, 9, "1", "2 0 0"),
            by(HANDED, 9, "5", "3 0 2"), by(HANDED, 9, "11", "3 0 1"), by(HANDED, 9, "13", "3 0 0"),
            by(HANDED, 9, "15", "2 0 1"));
    }

    private void putAside() {
        edges.says(24, "else it is put aside (out of the heap for the rest of that ROW");
        // a 10 leads to a row that only a 15 ends: the other 10 is put aside, and so are both
        edges.run("roof(\"w10 2 1;w15 2 1;r25;\") = 3", by(HANDED, 9, "0", "-4 -4 -4"), by(HANDED, 9, "1", "2 0 0"),
            by(HANDED, 9, "8", "2 0 1"), by(HANDED, 9, "8", "2 0 1"), by(HANDED, 9, "11", "-4 -4 -4"),
            by(HANDED, 9, "13", "2 0 1"), "width(0.., 1) = 2 2");
        // a joint at 10 below, so that a 10 comes only behind a 5
        edges.run("roof(\"w10 4 1;w5 4 1;r20;r20;\") = 4", "lay(0, [0 0]) = 0", "by(1, <2 9>, 0, 0..) = 3 0 1",
            "by(1, 5, 2, 0) = -4", "by(1, 5, 4, 0..) = 3 0 0", "by(1, 5, 8, 0..) = 3 0 3", "by(1, 5, 9, 0) = -4",
            "by(1, 5, 15, 0..) = 3 0 2");
        edges.says(24, "FIGURE and 2 times in all at most)");
        String roof = "roof(\"w10 1 1;w20 4 1;r10;\") = 3";
        asides(roof, HANDED, 0, seeds("0 8 1 6 9"), 0, 1, 2, -1, -1);
        asides(roof, HANDED, 1, seeds("0 8 1 6 9"), 0, 1, 2, 3, -1);
        asides(roof, HANDED, 2, seeds("0 8 1 6 9"), 0, 1, 2, 3, 4);
        asides("roof(\"w20 12 1;w10 1 1;r10;\") = 3", HANDED, 9, seeds("1 9 19 5 8 10"), 11, 11, 11, -1, -1, -1);
    }

    private void manyHanded() {
        edges.says(24, "MANY: as HANDED, but of two that are handed (the second one with the first one gone)");
        String[] seeds = seeds("MIN -65536 -2 -1 0 1 2 3 7 65535 MAX");
        asides("roof(\"w10 1 1;w20 11 1;r10;\") = 3", MANY, 9, seeds, 0, 0, 1, 4, 0, 3, 3, 4, 3, 4, 4);
        asides("roof(\"w20 11 1;w10 1 1;r10;\") = 3", MANY, 9, seeds, 5, 5, 0, 4, 5, 2, 1, 0, 4, 5, 4);
        // the one slate of its kind can't be handed twice
        edges.run("roof(\"w10 1 1;w20 1 1;r20;\") = 3", by(MANY, 0, "0", "1 0 0"), by(MANY, 0, "1", "1 0 0"),
            by(MANY, 0, "2", "1 0 0"), by(MANY, 0, "3", "1 0 0"), by(MANY, 0, "-1", "1 0 0"));
        edges.says(24, "the one of more INCHES that may be laid is, the other one goes back to the heap");
        edges.run("roof(\"w10 3 1;w30 1 1;r30;\") = 3", by(MANY, 0, "MIN", "3 0 0"), by(MANY, 0, "-65536", "1 0 0"),
            by(MANY, 0, "-1", "1 0 0"), by(MANY, 0, "0", "3 0 0"), by(MANY, 0, "1", "3 0 0"), by(MANY, 0, "2", "1 0 0"),
            by(MANY, 0, "65535", "3 0 0"), by(MANY, 0, "MAX", "1 0 0"));
        edges.run("roof(\"w30 1 1;w10 3 1;r30;\") = 3", by(MANY, 0, "MIN", "1 0 0"), by(MANY, 0, "-65536", "3 0 0"),
            by(MANY, 0, "-2", "1 0 0"), by(MANY, 0, "-1", "3 0 0"), by(MANY, 0, "1", "3 0 0"), by(MANY, 0, "7", "1 0 0"),
            by(MANY, 0, "MAX", "3 0 0"));
        edges.run("roof(\"w5 4 1;w10 2 1;w30 3 1;r20;\") = 4", by(MANY, 9, "0", "2 0 0"), by(MANY, 9, "-65536", "3 0 1"),
            by(MANY, 9, "-1", "4 0 1"), by(MANY, 9, "3", "3 0 0"), by(MANY, 9, "MAX", "4 0 1"));
    }

    private void manyPutAside() {
        edges.says(24, "(neither may: both are put aside, as one time");
        String roof = "roof(\"w10 1 1;w20 9 1;r10;\") = 3";
        asides(roof, MANY, 0, seeds("0 5 2 1 4"), 0, 1, 2, -1, -1);
        asides(roof, MANY, 1, seeds("0 5 2 1 4"), 0, 1, 2, 3, -1);
        asides(roof, MANY, 2, seeds("0 5 2 1 4"), 0, 1, 2, 3, 4);
        asides("roof(\"w20 12 1;w30 12 1;w10 1 1;r10;\") = 4", MANY, 9, seeds("9 19 22 41"), 11, 11, -1, -1);
        edges.run("roof(\"w10 2 1;w20 1 1;w30 4 1;r20;\") = 4", by(MANY, 9, "0", "2 0 2"), by(MANY, 9, "-1", "1 0 1"),
            by(MANY, 9, "1", "1 0 2"), by(MANY, 9, "3", "1 0 0"));
        edges.says(24, "of a heap of one just that is handed).");
        asides("roof(\"w10 1 1;w20 2 1;r10;\") = 3", MANY, 0, seeds("2 3 5 6 0 1 4 7"), 1, 1, 1, 1, 0, 0, 0, 0);
        asides("roof(\"w10 1 1;r10;\") = 2", MANY, 0, seeds("MIN -1 0 1 2 MAX"), 0, 0, 0, 0, 0, 0);
        edges.run("roof(\"w10 3 1;r30;\") = 2", by(MANY, 0, "0", "3 0 0"), by(MANY, 0, "1", "3 0 0"), by(MANY, 0, "-7", "3 0 0"));
    }

    private void stuck() {
        edges.says(24,
            "Where no WIDTH that the heap has may be laid (asked ahead of what is handed), or one time more would be put aside: STUCK.");
        for (int kind = 0; kind <= 6; kind++) {
            String cut = kind == 4 ? "2 5 0" : "-4 -4 -4";
            edges.run("roof(\"w15 2 1;r25;r25;\") = 3", by(kind, 9, "1", cut), "heap(0, 1) = 2", by(kind, 9, "1", "-4 -4 -4"),
                "heap(0, 0) = 1", by(kind, 9, "1", "-4 -4 -4"));
            edges.run("roof(\"r10;\") = 1", by(kind, 9, "1", "-4 -4 -4"));
        }
        edges.run("roof(\"w10 1 1;w20 4 1;r10;\") = 3", by(HANDED, 0, "1", "1 0 2"), by(HANDED, 0, "6", "-4 -4 -4"));
    }

    private void whatIsAsked() {
        edges.says(24, "How many slates; by how much it is CUT; how many times some were put aside.");
        edges.run("roof(\"w15 2 1;r25;\") = 2", by(4, 1, "0", "2 5 0"));
        edges.run("roof(\"w10 3 1;w20 2 1;r30;\") = 3", by(HANDED, 9, "0", "3 0 2"));
        edges.says(24,
            "BY the LAYING in SHELF d with a seed: how many slates (what 0), by how much it is CUT (1), how many were put aside (2); -4: STUCK.");
        edges.run("roof(\"w15 2 1;r25;\") = 2", "by(0, 0:<4 1>, 0, -1..) = -1 2 5 0 -1",
            "by(0, 7:<0 1>, 0, -1..) = -1 -4 -4 -4 -1", "by(0, 0, 0, 0) = 2");
        edges.says(24, "and what is taken from a SHELF, stay there");
        edges.run("roof(\"w10 3 1;w20 2 1;r30;\") = 3", "by(0, 3:<2 9>, 0, 0..) = 3 0 2", "by(0, 3, 0, 0..) = 3 0 2",
            "toil(3) = 6", "toss(3) = 109");
    }

    private void refusals() {
        edges.says(24, "-1; -3: laid; -11, -12 (no LAYING).");
        edges.run("by(0, <0 0>, 0, 0) = -1", "roof(\"w10 9 1;r10;r10;\") = 3", "by(-1, 5, 0, 0) = -1", "by(2, 5, 0, 0) = -1",
            "by(6, 5, 0, 0) = -1", "by(MIN, 5, 0, 0) = -1", "by(MAX, 5, 0, 0) = -1", "by(0, -1, 0, 0) = -1",
            "by(0, 8, 0, 0) = -1", "by(0, MIN, 0, 0) = -1", "by(0, MAX, 0, 0) = -1", "by(0, 5, 0, -1) = -1",
            "by(0, 5, 0, 3) = -1", "by(0, 5, 0, MIN) = -1", "by(0, 5, 0, MAX) = -1", "by(0, 0, 0, 0) = -11",
            "by(0, [0], 0, 0) = -12", "by(0, []b, 0, 0) = -12", "lay(0, [0]) = 0", "by(0, 5, 0, 0) = -3", "by(1, 5, 0, 0) = 1",
            "by(1, 5, MIN, 0) = 1", "by(1, 5, MAX, 0) = 1");
    }
}
