/** Promises 7 to 12: rows laid. */
public final class RowsLaidTest {
    private static final Check CHECK = new Check();

    public static void main(String[] args) {
        slatesAndJoints();
        jointsThatMayBe();
        judged();
        judgedByNumbersOfAllSorts();
        refusalsOfJudgeAndLay();
        laid();
        takenUp();
        takenUpToAFullHeap();
        cutByOne();
        atTheLengthNoJointIsAsked();
        fourWidths();
        CHECK.finish("RowsLaidTest");
    }

    private static void due(String call, long got, long want) {
        CHECK.due(call, got, want);
    }

    private static void slatesAndJoints() {
        SlateRows x = Check.withRoof("w5 4 1;w8 4 1;r30;r20;");
        due("7: slate, not laid", x.slate(0, 0), -4);
        due("8: joint, not laid", x.joint(0, 0), -4);
        due("11: lay", Check.lay(x, 0, 1, 0, 1, 0, 0), 1);
        int[] slates = {1, 0, 1, 0, 0};
        int[] joints = {8, 13, 21, 26};
        for (int i = 0; i < 5; i++) {
            due("7: slate(0, " + i + ")", x.slate(0, i), slates[i]);
        }
        for (int i = 0; i < 4; i++) {
            due("8: joint(0, " + i + ")", x.joint(0, i), joints[i]);
        }
        due("7: slate(0, 5)", x.slate(0, 5), -4);
        due("8: joint(0, 4), the cut one's", x.joint(0, 4), -4);
        due("7: slate(0, -1)", x.slate(0, -1), -1);
        due("8: joint(0, -1)", x.joint(0, -1), -1);
        due("7: slate(2, 0)", x.slate(2, 0), -1);
        due("8: joint(2, 0)", x.joint(2, 0), -1);
        due("7: slate(-1, 0)", x.slate(-1, 0), -1);
        due("8: joint(-1, 0)", x.joint(-1, 0), -1);
        due("7: slate(0, far)", x.slate(0, Integer.MAX_VALUE), -4);
        due("8: joint(0, far)", x.joint(0, Integer.MAX_VALUE), -4);
        due("7: slate(1, 0)", x.slate(1, 0), -4);
        SlateRows one = Check.withRoof("w30 1 1;r30;");
        Check.lay(one, 0, 0);
        due("7: one slate", one.slate(0, 0), 0);
        due("8: no joint at the length", one.joint(0, 0), -4);
    }

    private static void jointsThatMayBe() {
        SlateRows x = Check.withRoof("w10 8 1;r30;r40;r30;");
        due("9: nothing below", x.may(0, 1), 1);
        due("9: below not laid", x.may(1, 10), 1);
        Check.lay(x, 0, 0, 0, 0);
        int[] places = {1, 7, 8, 10, 12, 13, 17, 18, 20, 22, 23, 28, 30, 31, 39};
        int[] want = {1, 1, 0, 0, 0, 1, 1, 0, 0, 0, 1, 1, 1, 1, 1};
        for (int i = 0; i < places.length; i++) {
            due("9: may(1, " + places[i] + ")", x.may(1, places[i]), want[i]);
        }
        due("9: the row itself", x.may(0, 10), 1);
        due("9: two rows above", x.may(2, 10), 1);
        due("9: may(1, 0)", x.may(1, 0), -1);
        due("9: may(1, 40)", x.may(1, 40), -1);
        due("9: may(1, -1)", x.may(1, -1), -1);
        due("9: may(3, 1)", x.may(3, 1), -1);
        due("9: may(-1, 1)", x.may(-1, 1), -1);
        x.lap(0);
        due("9: lap 0", x.may(1, 10), 1);
        x.lap(1);
        due("9: lap 1 at a joint", x.may(1, 10), 0);
        due("9: lap 1 beside it", x.may(1, 11), 1);
        x.lap(20);
        due("9: lap 20, far", x.may(1, 39), 0);
        SlateRows cut = Check.withRoof("w10 8 1;r15;r30;");
        Check.lay(cut, 0, 0, 0);
        due("9: near the joint", cut.may(1, 12), 0);
        due("9: at the length of the row below", cut.may(1, 15), 1);
        due("9: where the cut one would end", cut.may(1, 20), 1);
    }

    private static void judged() {
        SlateRows x = Check.withRoof("w5 3 1;w10 2 1;r20;r20;");
        due("10: none", Check.judge(x, 0, 1, 1), -4);
        due("10: none, cut", Check.judge(x, 0, 0, 1, 1), -4);
        due("10: no slates", Check.judge(x, 0), 0);
        due("10: too short", Check.judge(x, 0, 1), 1);
        due("10: too short by two", Check.judge(x, 0, 0, 0), 2);
        due("10: one too many", Check.judge(x, 0, 1, 1, 0), 2);
        due("10: behind a cut one", Check.judge(x, 0, 0, 1, 1, 0), 3);
        due("10: no width", Check.judge(x, 0, 1, 2, 0), 1);
        due("10: below 0", Check.judge(x, 0, -1), 0);
        due("10: far off", Check.judge(x, 0, 0, Integer.MIN_VALUE), 1);
        due("10: not so many", Check.judge(x, 0, 0, 0, 0, 0), 3);
        due("10: not so many, broad", Check.judge(x, 0, 1, 0, 1), -4);
        x.heap(1, 1);
        due("10: not so many of the second", Check.judge(x, 0, 1, 0, 1), 2);
        x.heap(1, 2);
        Check.lay(x, 0, 1, 1);
        x.heap(1, 2);
        due("10: at a joint", Check.judge(x, 1, 1, 1), 0);
        due("10: two off one", Check.judge(x, 1, 0, 0, 0, 0), 1);
        due("10: joint at 5 and 15 may be", Check.judge(x, 1, 0, 1, 0), -4);
        due("10: the cut one has no joint", Check.judge(x, 1, 0, 1, 1), -4);
        due("10: nothing is laid by it", x.rowOf(1, 1), 0);
        due("10: nothing is taken by it", x.count(3), 5);
    }

    private static void judgedByNumbersOfAllSorts() {
        SlateRows x = Check.withRoof("w5 3 1;w10 2 1;r20;");
        for (int sort = 0; sort < 3; sort++) {
            Check.numbers(x, 0, sort, 1, 1);
            due("10: sort " + sort, x.judge(0, 0), -4);
        }
        Check.numbers(x, 0, 0, 1 + 256, 1 - 256);
        due("10: bytes by their lowest bits", x.judge(0, 0), -4);
        Check.numbers(x, 0, 2, 1 + 256, 1);
        due("10: ints whole", x.judge(0, 0), 0);
        int[] many = new int[100];
        Check.numbers(x, 0, 0, many);
        due("10: a hundred", x.judge(0, 0), 3);
    }

    private static void refusalsOfJudgeAndLay() {
        SlateRows x = Check.withRoof("w10 8 1;r20;r20;");
        Check.lay(x, 0, 0, 0);
        due("10: judge(2, 6)", x.judge(2, 6), -1);
        due("11: lay(2, 6)", x.lay(2, 6), -1);
        due("10: judge(-1, 6)", x.judge(-1, 6), -1);
        due("11: lay(-1, 6)", x.lay(-1, 6), -1);
        due("10: judge(1, 8)", x.judge(1, 8), -1);
        due("11: lay(1, 8)", x.lay(1, 8), -1);
        due("10: judge(0, -1)", x.judge(0, -1), -1);
        due("11: lay(0, -1)", x.lay(0, -1), -1);
        due("10: laid ahead of nothing held", x.judge(0, 0), -3);
        due("11: laid ahead of nothing held", x.lay(0, 0), -3);
        due("10: nothing held", x.judge(1, 0), -11);
        due("11: nothing held", x.lay(1, 0), -11);
        x.keep(0, 1, 0, 0);
        due("10: a laying", x.judge(1, 0), -12);
        due("11: a laying", x.lay(1, 0), -12);
        due("10: laid ahead of a laying", x.judge(0, 0), -3);
        due("11: laid ahead of a laying", x.lay(0, 0), -3);
        due("11: not none", Check.lay(x, 1, 0, 0), -3);
        due("11: too short", Check.lay(x, 1, 0), -3);
        due("11: no slates", Check.lay(x, 1), -3);
        due("11: nothing changed", x.count(3), 6);
        due("11: not laid", x.rowOf(1, 1), 0);
    }

    private static void laid() {
        SlateRows x = Check.withRoof("w5 12 1;w9 3 2;r60;r60;r10;");
        due("11: twelve", Check.lay(x, 0, 0, 0, 0, 0, 0, 0, 0, 0, 0, 0, 0, 0), 0);
        due("11: rowOf", x.rowOf(0, 1), 12);
        due("11: they left the heap", x.width(0, 1), 0);
        due("11: others didn't", x.width(1, 1), 3);
        due("11: count(4)", x.count(4), 1);
        due("11: the numbers stay", x.element(6, 11), 0);
        due("11: cut by eight", Check.lay(x, 2, 1, 1), 8);
        due("11: count(4)", x.count(4), 2);
        due("11: two left", x.width(1, 1), 1);
        SlateRows broad = Check.withRoof("w30 2 1;r10;");
        due("11: the first one cut", Check.lay(broad, 0, 0), 20);
        due("11: rowOf cut", broad.rowOf(0, 2), 20);
    }

    private static void takenUp() {
        SlateRows x = Check.withRoof("w5 4 1;w10 3 2;r25;r22;");
        Check.lay(x, 0, 0, 1, 1);
        due("12: all go back", x.takeUp(0), 3);
        due("12: heap", x.width(0, 1), 4);
        due("12: heap", x.width(1, 1), 3);
        due("12: not laid", x.rowOf(0, 1), 0);
        due("12: no slate", x.slate(0, 0), -4);
        due("12: not laid again", x.takeUp(0), -3);
        Check.lay(x, 1, 0, 1, 1);
        due("12: but the cut one", x.takeUp(1), 2);
        due("12: heap", x.width(1, 1), 2);
        due("12: heap", x.width(0, 1), 4);
        due("12: it can be laid again", Check.lay(x, 1, 0, 0, 0, 1), 3);
        due("12: takeUp(2)", x.takeUp(2), -1);
        due("12: takeUp(-1)", x.takeUp(-1), -1);
    }

    private static void cutByOne() {
        SlateRows x = Check.withRoof("w7 4 1;r13;");
        due("11: cut by one", Check.lay(x, 0, 0, 0), 1);
        due("12: but the cut one", x.takeUp(0), 1);
        due("12: heap", x.width(0, 1), 3);
    }

    private static void atTheLengthNoJointIsAsked() {
        SlateRows x = Check.withRoof("w10 6 1;w5 6 1;r30;r20;");
        Check.lay(x, 0, 0, 0, 0);
        due("10: ends above a joint", Check.judge(x, 1, 1, 0, 1), -4);
        due("11: ends above a joint", Check.lay(x, 1, 1, 0, 1), 0);
    }

    private static void fourWidths() {
        SlateRows x = Check.withRoof("w5 1 1;w6 1 1;w7 1 1;w8 1 1;r21;");
        due("10: the fourth is one", Check.judge(x, 0, 3, 2, 1), -4);
        due("10: a fifth is none", Check.judge(x, 0, 3, 4, 1), 1);
    }

    private static void takenUpToAFullHeap() {
        SlateRows x = Check.withRoof("w5 6 1;w10 3 2;r30;");
        Check.lay(x, 0, 0, 0, 0, 0, 1);
        x.heap(0, 10);
        due("12: two have no room", x.takeUp(0), 3);
        due("12: twelve of the first", x.width(0, 1), 12);
        due("12: three of the second", x.width(1, 1), 3);
        Check.lay(x, 0, 0, 0, 0, 0, 0, 0);
        x.heap(0, 12);
        due("12: none has room", x.takeUp(0), 0);
        due("12: but it is taken up", x.rowOf(0, 1), 0);
    }
}
