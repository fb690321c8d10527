/** Promises 13 to 23: ways. */
public final class WaysTest {
    private static final Check CHECK = new Check();

    public static void main(String[] args) {
        fillsOfAPlainRow();
        fillsAboveALaidRow();
        theMostFills();
        theBest();
        theLeastCut();
        uses();
        needs();
        ends();
        gaps();
        twoRows();
        twoRowsAboveALaidOne();
        allRows();
        brokenSlates();
        brokenSlatesAboveALaidRow();
        brokenAndCut();
        brokenWithOneLaidElsewhere();
        atTheLengthNoJointIsAsked();
        asManyAsThereCanBe();
        refusalsOfLaidRows();
        refusalsOfRowsOfOneSlate();
        refusalsOfWrongNumbers();
        CHECK.finish("WaysTest");
    }

    private static void due(String call, long got, long want) {
        CHECK.due(call, got, want);
    }

    private interface Asked {
        int at(int i);
    }

    /** A told order: its widths from 0 on, and -4 behind the last. */
    private static void order(String call, Asked asked, int... want) {
        for (int i = 0; i < want.length; i++) {
            due(call + " " + i, asked.at(i), want[i]);
        }
        due(call + " behind the last", asked.at(want.length), -4);
        due(call + " far behind", asked.at(Integer.MAX_VALUE), -4);
    }

    private static void fillsOfAPlainRow() {
        // 20 out of 5 and 10: four 5s, two 5s and a 10 in three orders, two 10s
        SlateRows x = Check.withRoof("w5 4 3;w10 2 8;r20;r11;");
        due("13: fills(0)", x.fills(0), 5);
        order("14: first(0)", i -> x.first(0, i), 0, 0, 0, 0);
        due("13: none", x.fills(1), 0);
        due("14: no fill", x.first(1, 0), -4);
        x.heap(0, 3);
        due("13: one fewer", x.fills(0), 4);
        order("14: first, one fewer", i -> x.first(0, i), 0, 0, 1);
        x.heap(0, 1);
        due("13: only the 10s", x.fills(0), 1);
        order("14: only the 10s", i -> x.first(0, i), 1, 1);
        x.heap(1, 0);
        due("13: no heap to speak of", x.fills(0), 0);
        SlateRows one = Check.withRoof("w30 1 1;w25 1 1;r30;r25;r55;");
        due("13: one slate", one.fills(0), 1);
        due("13: one slate", one.fills(1), 1);
        due("13: both, both ways", one.fills(2), 2);
        order("14: both", i -> one.first(2, i), 0, 1);
        SlateRows bare = Check.withRoof("r20;");
        due("13: no widths", bare.fills(0), 0);
        due("14: no widths", bare.first(0, 0), -4);
    }

    private static void fillsAboveALaidRow() {
        // a joint at 10 below: none from 8 to 12, so that only 5, 10, 5 is left
        SlateRows x = Check.withRoof("w5 8 1;w10 6 1;r20;r20;r20;");
        Check.lay(x, 0, 1, 1);
        due("13: fills(1)", x.fills(1), 1);
        order("14: first(1)", i -> x.first(1, i), 0, 1, 0);
        due("13: two rows above", x.fills(2), 5);
        x.lap(5);
        due("13: five off is well", x.fills(1), 1);
        x.lap(6);
        due("13: five off is too near", x.fills(1), 0);
        x.lap(0);
        due("13: no lap", x.fills(1), 5);
        x.lap(3);
        x.takeUp(0);
        due("13: nothing below", x.fills(1), 5);
    }

    private static void theMostFills() {
        SlateRows x = Check.withRoof("w5 12 9;w6 12 9;w7 12 9;w8 12 9;r60;r59;");
        due("13: as many as there can be", x.fills(0), fillsWithoutEnd(60));
        due("13: one less long", x.fills(1), fillsWithoutEnd(59));
        order("14: the first of them", i -> x.first(0, i), 0, 0, 0, 0, 0, 0, 0, 0, 0, 0, 0, 0);
        due("15: eight slates at least", x.best(0, -1), 72);
        SlateRows y = Check.withRoof("w8 12 9;w7 12 9;w6 12 9;w5 12 9;r60;");
        due("13: the other way round", y.fills(0), fillsWithoutEnd(60));
        order("14: the other way round", i -> y.first(0, i), 0, 0, 0, 0, 0, 0, 1, 3);
    }

    /** With a heap that never ends: 12 of each are so many. */
    private static int fillsWithoutEnd(int length) {
        int[] ways = new int[length + 1];
        ways[0] = 1;
        for (int at = 1; at <= length; at++) {
            for (int inches = 5; inches <= 8 && inches <= at; inches++) {
                ways[at] += ways[at - inches];
            }
        }
        return ways[length];
    }

    private static void theBest() {
        SlateRows x = Check.withRoof("w5 4 3;w10 2 8;r20;r11;");
        due("15: four times 3", x.best(0, -1), 12);
        order("15: best(0)", i -> x.best(0, i), 0, 0, 0, 0);
        due("15: no fill", x.best(1, -1), -4);
        due("15: no fill", x.best(1, 0), -4);
        x.heap(0, 3);
        due("15: two 5s and a 10", x.best(0, -1), 14);
        order("15: the first of three orders", i -> x.best(0, i), 0, 0, 1);
        SlateRows dear = Check.withRoof("w5 4 5;w10 2 8;r20;");
        due("15: the 10s are cheaper", dear.best(0, -1), 16);
        order("15: the 10s", i -> dear.best(0, i), 1, 1);
        SlateRows alike = Check.withRoof("w10 2 8;w5 4 4;r20;");
        due("15: all alike", alike.best(0, -1), 16);
        order("15: the first of all", i -> alike.best(0, i), 0, 0);
        SlateRows free = Check.withRoof("w10 2 0;w20 1 0;r20;");
        due("15: worth nothing", free.best(0, -1), 0);
        order("15: worth nothing", i -> free.best(0, i), 0, 0);
    }

    private static void theLeastCut() {
        SlateRows x = Check.withRoof("w5 3 1;w10 3 1;r12;r15;r60;");
        due("16: cuts(0)", x.cuts(0, -1), 3);
        order("16: cuts(0)", i -> x.cuts(0, i), 0, 0, 0);
        // 5, 10 ends at 15 just so, and is not cut
        due("16: cuts(1)", x.cuts(1, -1), 5);
        order("16: cuts(1)", i -> x.cuts(1, i), 0, 0, 1);
        due("16: the heap is too small", x.cuts(2, -1), -4);
        due("16: the heap is too small", x.cuts(2, 0), -4);
        x.heap(0, 1);
        order("16: one 5", i -> x.cuts(0, i), 0, 1);
        SlateRows eight = Check.withRoof("w8 12 1;r60;");
        due("16: the eighth is cut", eight.cuts(0, -1), 4);
        order("16: the eighth is cut", i -> eight.cuts(0, i), 0, 0, 0, 0, 0, 0, 0, 0);
        eight.heap(0, 7);
        due("16: no eighth", eight.cuts(0, -1), -4);
        SlateRows broad = Check.withRoof("w30 1 1;r10;");
        due("16: by twenty", broad.cuts(0, -1), 20);
        order("16: by twenty", i -> broad.cuts(0, i), 0);
        // joints from 8 to 12 may not be: a cut 10 comes only behind a 5
        SlateRows above = Check.withRoof("w10 6 1;w5 6 1;r20;r14;");
        Check.lay(above, 0, 0, 0);
        due("16: above", above.cuts(1, -1), 1);
        order("16: above", i -> above.cuts(1, i), 1, 0);
        SlateRows least = Check.withRoof("w12 1 1;w9 3 1;w11 1 1;r20;");
        due("16: the least, not the first", least.cuts(0, -1), 1);
        order("16: the least, not the first", i -> least.cuts(0, i), 0, 1);
    }

    private static void uses() {
        SlateRows x = Check.withRoof("w5 4 3;w10 2 8;w7 1 1;w9 0 1;r20;");
        due("17: the fourth 5", x.uses(0, 0), 1);
        due("17: the second 10", x.uses(0, 1), 1);
        due("17: a 7 fills nothing", x.uses(0, 2), 0);
        due("17: there is none", x.uses(0, 3), 0);
        x.heap(0, 3);
        due("17: a third 5 more than two", x.uses(0, 0), 0);
        x.heap(0, 2);
        due("17: a second 5", x.uses(0, 0), 3);
        due("17: the heap is as it was", x.width(0, 1), 2);
        x.heap(0, 0);
        due("17: none of it any more", x.uses(0, 0), 0);
    }

    private static void needs() {
        SlateRows x = Check.withRoof("w5 0 3;w10 0 8;w7 1 1;r20;r60;r11;r27;");
        due("18: four 5s", x.needs(0, 0), 4);
        due("18: two 10s", x.needs(0, 1), 2);
        due("18: 7s won't do", x.needs(0, 2), -4);
        due("18: twelve 5s", x.needs(1, 0), 12);
        due("18: nothing comes to 11", x.needs(2, 0), -4);
        due("18: with the 7", x.needs(3, 1), 2);
        x.heap(0, 3);
        due("18: one more", x.needs(0, 0), 1);
        due("18: three 5s, two 10s are the least", x.needs(0, 1), 1);
        x.heap(0, 12);
        due("18: none", x.needs(1, 0), 0);
        due("18: none of another", x.needs(0, 2), 0);
        due("18: the heap is as it was", x.width(0, 1), 12);
        SlateRows full = Check.withRoof("w6 12 1;w5 0 1;r60;r59;");
        due("18: there is a fill", full.needs(0, 1), 0);
        due("18: nine 6s and a 5", full.needs(1, 1), 1);
        due("18: twelve are all", full.needs(1, 0), -4);
    }

    private static void ends() {
        SlateRows x = Check.withRoof("w5 4 3;w10 2 8;w7 1 1;r20;r11;");
        due("19: ends with 5", x.ends(0, 0), 3);
        due("19: ends with 10", x.ends(0, 1), 2);
        due("19: ends with 7", x.ends(0, 2), 0);
        due("19: no fill", x.ends(1, 0), 0);
        x.heap(0, 2);
        due("19: ends with 5", x.ends(0, 0), 2);
        due("19: ends with 10", x.ends(0, 1), 2);
    }

    private static void gaps() {
        SlateRows x = Check.withRoof("w10 6 8;r30;r40;r10;");
        due("20: all", x.gaps(0), 29);
        due("20: all of the shortest", x.gaps(2), 9);
        Check.lay(x, 0, 0, 0, 0);
        due("20: but five at each of two joints", x.gaps(1), 29);
        due("20: of a laid row", x.gaps(0), 29);
        x.lap(0);
        due("20: no lap", x.gaps(1), 39);
        x.lap(1);
        due("20: but the joints", x.gaps(1), 37);
        x.lap(20);
        due("20: none below 40", x.gaps(1), 0);
        x.lap(19);
        due("20: just the last", x.gaps(1), 1);
        due("20: gaps(3)", x.gaps(3), -1);
        due("20: gaps(-1)", x.gaps(-1), -1);
    }

    private static void twoRows() {
        SlateRows x = Check.withRoof("w10 4 3;w20 1 5;r20;r20;r20;r20;");
        due("21: one has the 20", x.two(0, 2), 11);
        due("21: the other way round", x.two(2, 0), 11);
        due("21: far apart", x.two(0, 3), 11);
        due("21: nothing is laid", x.count(3), 5);
        x.heap(1, 2);
        due("21: both", x.two(0, 2), 10);
        x.heap(1, 0);
        due("21: neither", x.two(1, 3), 12);
        x.heap(0, 3);
        due("21: not enough for both", x.two(1, 3), -4);
        due("21: enough for each", x.fills(1) + x.fills(3), 2);
        due("21: two(0, 0)", x.two(0, 0), -1);
        due("21: two(0, 1)", x.two(0, 1), -1);
        due("21: two(3, 2)", x.two(3, 2), -1);
        due("21: two(0, 4)", x.two(0, 4), -1);
        due("21: two(4, 0)", x.two(4, 0), -1);
        due("21: two(-1, 1)", x.two(-1, 1), -1);
        due("21: two(far, far)", x.two(Integer.MIN_VALUE, Integer.MAX_VALUE), -1);
        Check.lay(x, 2, 0, 0);
        due("21: laid", x.two(0, 2), -3);
        due("21: laid", x.two(2, 0), -3);
        due("21: -1 goes ahead", x.two(2, 3), -1);
        SlateRows long2 = Check.withRoof("w5 12 9;w6 12 8;w7 12 7;w8 12 6;r60;r10;r60;");
        due("21: seven or eight each", long2.two(0, 2), twiceTheLeast());
    }

    /** Two rows of 60 out of 12 each of 5, 6, 7, 8 inches that are worth 9, 8, 7, 6. */
    private static int twiceTheLeast() {
        int least = Integer.MAX_VALUE;
        for (int a = 0; a <= 12; a++) {
            for (int b = 0; b <= 12; b++) {
                for (int c = 0; c <= 12; c++) {
                    for (int d = 0; d <= 12; d++) {
                        if (5 * a + 6 * b + 7 * c + 8 * d == 120 && splits(new int[] {a, b, c, d})) {
                            least = Math.min(least, 9 * a + 8 * b + 7 * c + 6 * d);
                        }
                    }
                }
            }
        }
        return least;
    }

    private static boolean splits(int[] n) {
        for (int a = 0; a <= n[0]; a++) {
            for (int b = 0; b <= n[1]; b++) {
                for (int c = 0; c <= n[2]; c++) {
                    for (int d = 0; d <= n[3]; d++) {
                        if (5 * a + 6 * b + 7 * c + 8 * d == 60) {
                            return true;
                        }
                    }
                }
            }
        }
        return false;
    }

    private static void twoRowsAboveALaidOne() {
        SlateRows x = Check.withRoof("w10 6 3;w5 6 1;r20;r20;r20;");
        Check.lay(x, 1, 0, 0);
        due("21: four 5s, and 5, 10, 5", x.two(0, 2), 9);
        x.heap(1, 5);
        due("21: 5, 5, 10, and 5, 10, 5", x.two(0, 2), 10);
        x.heap(1, 1);
        due("21: there must be two 5s", x.two(0, 2), -4);
    }

    private static void allRows() {
        SlateRows x = Check.withRoof("w10 5 3;w5 4 1;r20;r20;r20;");
        due("22: four 5s, and above them no 10s", x.all(0), 1);
        due("22: five 10s are left", x.all(1), 15);
        x.lap(0);
        due("22: four 5s, 10s, 10s", x.all(0), 3);
        due("22: one 10 is left", x.all(1), 3);
        x.lap(3);
        Check.lay(x, 0, 0, 0);
        due("22: 5, 10, 5, and 10s", x.all(0), 2);
        due("22: two 5s are left", x.all(1), 2);
        due("22: in mind alone", x.count(4), 1);
        due("22: in mind alone", x.count(3), 7);
        Check.lay(x, 1, 1, 0, 1);
        x.takeUp(0);
        due("22: one between is laid", x.all(0), 2);
        due("22: below it 5, 5, 10, above it 10s", x.all(1), 3);
        due("22: all(2)", x.all(2), -1);
        due("22: all(-1)", x.all(-1), -1);
        SlateRows stop = Check.withRoof("w10 5 3;r20;r15;r20;");
        due("22: till one has none", stop.all(0), 1);
        due("22: till one has none", stop.all(1), 9);
        SlateRows bare = new SlateRows();
        due("22: no rows", bare.all(0), 0);
        due("22: no rows", bare.all(1), 0);
    }

    private static void brokenSlates() {
        SlateRows x = Check.withRoof("w5 6 1;w10 6 1;r20;");
        Check.lay(x, 0, 1, 1);
        due("23: another 10", x.broken(0, 0), 1);
        x.heap(1, 0);
        x.heap(0, 2);
        due("23: two 5s", x.broken(0, 0), 1);
        due("23: two 5s", x.broken(0, 1), 1);
        x.heap(0, 1);
        due("23: a 10 and a 5 are too little", x.broken(0, 1), -4);
        x.takeUp(0);
        x.heap(0, 6);
        x.heap(1, 6);
        Check.lay(x, 0, 1, 0, 0);
        x.heap(0, 0);
        x.heap(1, 1);
        due("23: a 10 for both 5s", x.broken(0, 1), 2);
        due("23: a 10 for both 5s", x.broken(0, 2), 2);
        due("23: a 10 for the 10", x.broken(0, 0), 1);
        due("23: in mind alone", x.rowOf(0, 1), 3);
        due("23: in mind alone", x.count(3), 1);
        x.takeUp(0);
        x.heap(0, 4);
        x.heap(1, 3);
        Check.lay(x, 0, 0, 1, 0);
        x.heap(0, 0);
        x.heap(1, 2);
        due("23: two 10s for all of them", x.broken(0, 0), 3);
        due("23: two 10s for all of them", x.broken(0, 2), 3);
        due("23: a 10 for the 10", x.broken(0, 1), 1);
        x.heap(1, 1);
        due("23: the 10 goes with another", x.broken(0, 0), 3);
        due("23: broken(0, 3)", x.broken(0, 3), -1);
        due("23: broken(0, -1)", x.broken(0, -1), -1);
        due("23: broken(1, 0)", x.broken(1, 0), -1);
        due("23: broken(-1, 0)", x.broken(-1, 0), -1);
        x.takeUp(0);
        due("23: not laid", x.broken(0, 0), -1);
    }

    private static void brokenSlatesAboveALaidRow() {
        SlateRows x = Check.withRoof("w5 6 1;w10 6 1;r20;r20;");
        Check.lay(x, 1, 1, 1);
        Check.lay(x, 0, 1, 1);
        due("23: the ends of the gap are not asked", x.broken(1, 0), 1);
        x.heap(1, 0);
        due("23: two 5s, five off", x.broken(1, 0), 1);
        x.lap(5);
        due("23: two 5s, five off", x.broken(1, 0), 1);
        x.lap(6);
        due("23: within the gap it may not be", x.broken(1, 0), -4);
        due("23: the row below has none below", x.broken(0, 0), 1);
    }

    private static void brokenAndCut() {
        SlateRows x = Check.withRoof("w10 3 1;w5 4 1;r15;");
        Check.lay(x, 0, 0, 0);
        due("23: the cut one covers 5", x.broken(0, 1), 1);
        x.heap(0, 2);
        x.heap(1, 0);
        due("23: no 5", x.broken(0, 1), -4);
        due("23: a 10 for the first", x.broken(0, 0), 1);
        x.heap(0, 0);
        x.heap(1, 1);
        due("23: the cut one is gone as it is taken up", x.broken(0, 0), -4);
        x.heap(1, 3);
        due("23: two 5s for the first", x.broken(0, 0), 1);
        SlateRows y = Check.withRoof("w10 3 1;w7 4 1;w5 1 1;r14;");
        Check.lay(y, 0, 2, 0);
        y.heap(0, 0);
        due("23: two 7s for both", y.broken(0, 1), 2);
        due("23: two 7s for both", y.broken(0, 0), 2);
        y.heap(1, 1);
        due("23: one 7 won't do", y.broken(0, 0), -4);
    }

    private static void brokenWithOneLaidElsewhere() {
        SlateRows x = Check.withRoof("w5 6 1;w10 2 1;w8 2 1;r10;r18;");
        Check.lay(x, 0, 0, 0);
        Check.lay(x, 1, 1, 2);
        x.heap(0, 2);
        x.heap(1, 0);
        x.heap(2, 0);
        // 5, 5 has a joint just above that at 5; 8, 5, 5 has not, with the 8 that was laid behind
        due("23: the 8 comes to lie first", x.broken(1, 0), 2);
        due("23: no 8", x.broken(1, 1), -4);
    }

    private static void atTheLengthNoJointIsAsked() {
        SlateRows x = Check.withRoof("w10 6 1;w5 6 1;r30;r20;");
        Check.lay(x, 0, 0, 0, 0);
        due("13: 5, 10, 5 ends above a joint", x.fills(1), 1);
        due("15: 5, 10, 5", x.best(1, -1), 3);
        due("19: 5, 10, 5", x.ends(1, 1), 1);
        Check.lay(x, 1, 1, 0, 1);
        x.heap(0, 0);
        due("23: a 5 at the end", x.broken(1, 2), 1);
    }

    private static void asManyAsThereCanBe() {
        SlateRows x = Check.withRoof("w10 12 2;w30 1 1;w29 1 1;w28 1 1;r20;r20;r20;r20;r20;r20;l0;");
        due("22: six rows", x.all(0), 6);
        due("22: the others are left", x.all(1), 3);
        due("21: the last one", x.two(5, 0), 8);
        due("18: the last width", x.needs(5, 3), 0);
        due("19: the last width", x.ends(5, 3), 0);
        due("17: the last width", x.uses(5, 3), 0);
        due("13: one order", x.fills(5), 1);
    }

    private static void refusalsOfRowsOfOneSlate() {
        SlateRows x = Check.withRoof("w20 6 1;r20;r20;r20;");
        Check.lay(x, 0, 0);
        due("13: laid", x.fills(0), -3);
        due("18: laid", x.needs(0, 0), -3);
        due("21: laid", x.two(0, 2), -3);
        due("21: laid", x.two(2, 0), -3);
        due("22: but the one laid", x.all(0), 2);
        due("23: one of one", x.broken(0, 0), 1);
    }

    private static void refusalsOfLaidRows() {
        SlateRows x = Check.withRoof("w10 6 1;r20;");
        Check.lay(x, 0, 0, 0);
        due("13: laid", x.fills(0), -3);
        due("14: laid", x.first(0, 0), -3);
        due("15: laid", x.best(0, -1), -3);
        due("16: laid", x.cuts(0, -1), -3);
        due("17: laid", x.uses(0, 0), -3);
        due("18: laid", x.needs(0, 0), -3);
        due("19: laid", x.ends(0, 0), -3);
        due("14: -1 goes ahead", x.first(0, -1), -1);
        due("15: -1 goes ahead", x.best(0, -2), -1);
        due("16: -1 goes ahead", x.cuts(0, -2), -1);
        due("17: -1 goes ahead", x.uses(0, 1), -1);
        due("18: -1 goes ahead", x.needs(0, 1), -1);
        due("19: -1 goes ahead", x.ends(0, 1), -1);
    }

    private static void refusalsOfWrongNumbers() {
        SlateRows x = Check.withRoof("w10 6 1;r20;");
        for (int row : new int[] {-1, 1, 6, Integer.MIN_VALUE, Integer.MAX_VALUE}) {
            due("13: fills(" + row + ")", x.fills(row), -1);
            due("14: first(" + row + ")", x.first(row, 0), -1);
            due("15: best(" + row + ")", x.best(row, 0), -1);
            due("16: cuts(" + row + ")", x.cuts(row, 0), -1);
            due("17: uses(" + row + ")", x.uses(row, 0), -1);
            due("18: needs(" + row + ")", x.needs(row, 0), -1);
            due("19: ends(" + row + ")", x.ends(row, 0), -1);
        }
        for (int width : new int[] {-1, 1, 4, Integer.MIN_VALUE, Integer.MAX_VALUE}) {
            due("17: uses of " + width, x.uses(0, width), -1);
            due("18: needs of " + width, x.needs(0, width), -1);
            due("19: ends of " + width, x.ends(0, width), -1);
        }
        due("14: first(0, -1)", x.first(0, -1), -1);
        due("15: best(0, -2)", x.best(0, -2), -1);
        due("16: cuts(0, -2)", x.cuts(0, -2), -1);
    }
}
