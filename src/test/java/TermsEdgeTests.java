/** The terms, sentence by sentence: what is just there and what is just not. Worked out by hand. */
public final class TermsEdgeTests extends Check {
    private static final int LEAST = Integer.MIN_VALUE;
    private static final int GREATEST = Integer.MAX_VALUE;

    public static void main(String[] args) {
        rowsAndNumbers();
        regionZero();
        slices();
        nextRegions();
        cuts();
        proofs();
        store();
        checking();
        questions();
        refusedCalls();
        noneFirst();
        rowOfNumbersStays();
        close("edges of the terms");
    }

    private static void rowsAndNumbers() {
        words(0, "a and b -5 .. 5, not both 0, c -50 .. 50");
        int[][] can = {{5, 5, 50}, {-5, -5, -50}, {0, 5, 0}, {0, -5, 0}, {5, 0, 0}, {-5, 0, 0}, {0, 1, 50}, {1, 0, -50}};
        for (int[] r : can) {
            due("can be", new SplitSlices().adds(r[0], r[1], r[2]), 1);
            due("can be", new SplitSlices().loses(r[0], r[1], r[2]) >= 0, true);
        }
        int[][] cant = {{6, 1, 0}, {-6, 1, 0}, {1, 6, 0}, {1, -6, 0}, {0, 0, 0}, {0, 0, 50}, {1, 1, 51}, {1, 1, -51},
            {LEAST, 1, 0}, {GREATEST, 1, 0}, {1, LEAST, 0}, {1, GREATEST, 0}, {1, 1, LEAST}, {1, 1, GREATEST}};
        for (int[] r : cant) {
            refused("can't be", new SplitSlices().adds(r[0], r[1], r[2]));
            refused("can't be", new SplitSlices().loses(r[0], r[1], r[2]));
        }

        words(0, "at most 6, at first none");
        SplitSlices s = new SplitSlices();
        due("at first", s.count(0), 0);
        for (int k = 1; k <= 6; k++) {
            due("up to 6", s.adds(1, 0, k), k);
        }
        due("no seventh", s.adds(1, 0, 7), -2);
        due("no seventh", s.count(0), 6);

        words(0, "behind them always four: -x at most 0, x at most 6, -y at most 0, y at most 6");
        for (int told = 6; told >= 0; told--) {
            int[] four = {-1, 0, 0, 1, 0, 6, 0, -1, 0, 0, 1, 6};
            for (int i = 0; i < four.length; i++) {
                due("behind " + told, s.row(told + i / 3, i % 3), four[i]);
            }
            due("no fifth behind " + told, rowThrows(s, told + 4, 0), true);
            refused("they can't be changed", s.becomes(told, 3));
            refused("they can't be changed", s.becomes(told + 3, 3));
            refused("they can't go", s.drops(told));
            if (told > 0) {
                due("one goes", s.drops(0), told - 1);
            }
        }

        words(0, "upper and lower one, as small as can be, the lower one above 0");
        SplitSlices four = with("+4x+4y<6");
        due("6 by 4 is 3 by 2", four.slice(0, 0, 0), 1);
        told(four, 0, 1, 3, 2);
        due("2 by 4 is 1 by 2", four.slice(0, 0, 1), 1);
        told(four, 0, 1, 1, 2);
        SplitSlices below = with("+0x-2y<-3;-4x+0y<-6");
        due("-3 by -2", below.slice(0, 0, 2), 1);
        told(below, 3, 2, 6, 1);
        due("-6 by -4", below.slice(0, 1, 2), 1);
        told(below, 3, 2, 6, 1);
        due("below 0", below.most(-1, 0, 0), 0);
        told(below, -3, 2);
        due("0 is 0 by 1", with("+5x+5y<0").most(1, 1, 0), 0);
        due("0 by 12", four.stores(0, 0, 0) == 1 && four.breaks(9, 9, 12) == 0, true);
        told(four, 0, 1);
    }

    private static void regionZero() {
        words(0, "REGION 0: POINTS for which all ROWS hold");
        SplitSlices s = with("+2x+3y<12;-1x+2y<6");
        due("on a row", s.inside(0, 36, 24, 12), 1);
        due("a twelfth beyond it", s.inside(0, 36, 25, 12), 0);
        due("a twelfth beyond it", s.inside(0, 37, 24, 12), 0);
        due("on two rows", s.inside(0, 6, 24, 7), 1);
        due("beyond the second alone", s.inside(0, 0, 37, 12), 0);
        due("on the second", s.inside(0, 0, 36, 12), 1);
        SplitSlices all = new SplitSlices();
        for (int corner = 0; corner < 4; corner++) {
            due("on the four", all.inside(0, 72 * (corner & 1), 72 * (corner >> 1), 12), 1);
        }
        SplitSlices none = with("+1x+0y<-1");
        due("no POINT", none.inside(0, 0, 0, 1), 0);
        due("no POINT", none.most(0, 0, 0), -2);
        SplitSlices one = with("+1x+1y<0");
        due("one POINT", one.inside(0, 0, 0, 1), 1);
        due("no other", one.inside(0, 1, 0, 12), 0);
        due("no other", one.inside(0, 0, 1, 12), 0);
    }

    private static void slices() {
        words(0, "A SLICE of a REGION, way 0, at k (0 .. 6): POINTS of it with x = k; way 1: with y = k");
        SplitSlices s = with("+1x+2y<13");
        due("x = 0", s.slice(0, 0, 0), 1);
        told(s, 0, 1, 6, 1);
        due("x = 6", s.slice(0, 0, 6), 1);
        told(s, 0, 1, 7, 2);
        due("y = 0", s.slice(0, 1, 0), 1);
        told(s, 0, 1, 6, 1);
        due("y = 6", s.slice(0, 1, 6), 1);
        told(s, 0, 1, 1, 1);

        words(0, "it is empty, or goes from its LOW to its HIGH (of the other unknown)");
        SplitSlices upright = with("+1x+0y<3;-1x+0y<-3");
        due("just there, whole", upright.slice(0, 0, 3), 1);
        told(upright, 0, 1, 6, 1);
        due("one too low", upright.slice(0, 0, 2), 0);
        due("one too high", upright.slice(0, 0, 4), 0);
        due("one POINT", upright.slice(0, 1, 6), 1);
        told(upright, 3, 1, 3, 1);
        SplitSlices meeting = with("+0x+5y<1;+0x-5y<-1");
        due("LOW is HIGH", meeting.slice(0, 0, 0), 1);
        told(meeting, 1, 5, 1, 5);
        SplitSlices missing = with("+0x+5y<1;+0x-4y<-1");
        due("LOW is above HIGH", missing.slice(0, 0, 0), 0);
        due("none at all", missing.slices(0), 0);
        due("HIGH is below 0", with("+5x+1y<19").slice(0, 0, 4), 0);
        due("HIGH is 0", with("+5x+1y<20").slice(0, 0, 4), 1);
        due("LOW is above 6", with("-5x-1y<-27").slice(0, 0, 4), 0);
        due("LOW is 6", with("-5x-1y<-26").slice(0, 0, 4), 1);
    }

    private static void nextRegions() {
        words(0, "if x is k (0 .. 6), the POINT is in that SLICE of REGION r");
        SplitSlices peak = with("-1x+1y<2;+1x+1y<7");
        due("HIGH at 2", peak.splits(0, 24, 48, 12), 0);
        due("x = 6, no SLICE at 7", peak.splits(0, 72, 12, 12), 0);
        due("x = 0", peak.splits(0, 0, 24, 12), 0);
        due("y = 6, no SLICE at 7", new SplitSlices().inside(3, 72, 72, 12), 1);
        SplitSlices cutOff = with("+1x+2y<5");
        due("x = 0, but not by way 1", cutOff.splits(0, 0, 25, 12), 1);
        told(cutOff, 0, 1);
        due("x = 0, above the SLICE of REGION 1", cutOff.round(0, 25, 12), 1);
        due("x = 0, HIGH of the SLICE of REGION 1", cutOff.round(0, 24, 12), -2);

        words(0, "both SLICES (at k and k + 1) are not empty");
        SplitSlices right = with("+2x+0y<3");
        due("x = 1", right.splits(0, 12, 0, 12), 0);
        due("just behind 1, SLICE at 2 is empty", right.splits(0, 13, 0, 12), 1);
        told(right, 1, 0);
        due("just ahead of 1", right.splits(0, 11, 0, 12), 0);
        SplitSlices left = with("-2x+0y<-3");
        due("x = 2", left.splits(0, 24, 0, 12), 0);
        due("just ahead of 2, SLICE at 1 is empty", left.splits(0, 23, 0, 12), 1);
        told(left, 1, 0);
        SplitSlices between = with("+4x+0y<3;-4x+0y<-1");
        due("both are empty", between.splits(0, 6, 6, 12), 1);
        told(between, 1, 0);
        due("REGION 1 has none", between.inside(1, 6, 6, 12), 0);
        SplitSlices level = with("+0x+4y<3;+0x-4y<-1");
        due("both are empty, x and y changed about", level.splits(0, 6, 6, 12), 1);
        told(level, 0, 1);

        words(0, "y is not below the straight line from LOW of the one to LOW of the other, nor above that from HIGH to HIGH");
        due("on the line of HIGHS", peak.splits(0, 30, 48, 12), 0);
        due("a twelfth above it", peak.splits(0, 30, 49, 12), 2);
        told(peak, 1, 1);
        SplitSlices pit = with("-1x-1y<-3;+1x-1y<2");
        due("on the line of LOWS", pit.splits(0, 30, 12, 12), 0);
        due("a twelfth below it", pit.splits(0, 30, 11, 12), 2);
        told(pit, 1, 1);
        SplitSlices slant = with("-4x+2y<5;+2x+4y<25");
        // at x = 1 and 2 HIGH is 9/2 and 21/4; at 17/12 the line is 77/16, which is between 57/12 and 58/12
        due("below a slanting line", slant.splits(0, 17, 57, 12), 0);
        told(slant, 0, 0);
        due("above it", slant.splits(0, 17, 58, 12), 1);
        told(slant, 1, 0);

        words(0, "By way 1: likewise, x and y changed about");
        SplitSlices aside = with("+1x-1y<2;+1x+1y<7");
        due("on the line of HIGHS", aside.splits(0, 48, 30, 12), 0);
        due("a twelfth above it", aside.splits(0, 49, 30, 12), 2);
        SplitSlices top = with("+0x+2y<3");
        due("just above 1, SLICE at 2 is empty", top.splits(0, 0, 13, 12), 1);
        told(top, 0, 1);
        due("y = 1", top.splits(0, 0, 12, 12), 0);
    }

    private static void cuts() {
        words(0, "The CUT of a way, a SIDE and k (0 .. 5), if the SLICES of REGION 0, at k and at k + 1, are not empty");
        SplitSlices right = with("+1x+0y<5");
        due("SLICES at 4 and 5", right.cut(0, 0, 4), 1);
        due("the one at 6 is empty", right.cut(0, 0, 5), -2);
        SplitSlices left = with("-1x+0y<-1");
        due("the one at 0 is empty", left.cut(0, 1, 0), -2);
        due("SLICES at 1 and 2", left.cut(0, 1, 1), 1);
        due("k 5", left.cut(0, 1, 5), 1);
        due("both are empty", with("-1x+0y<-4").cut(0, 0, 1), -2);
        due("those of the other way are not asked", right.cut(1, 0, 5), 1);
        due("nor those of REGION 1", with("+2x+2y<3;-2x+2y<1").cut(1, 0, 0), 1);

        words(0, "on which both HIGHS (LOWS) lie exactly, and which the POINTS of REGION 0 at k hold");
        SplitSlices line = with("+1x-1y<0;-1x+1y<0");
        due("SLICES of one POINT, HIGH", line.cut(0, 0, 0), 1);
        told(line, -1, 1, 0, 1, 1, 1, 1, 0, 1, 1, 1, 0, 1);
        due("SLICES of one POINT, LOW", line.cut(0, 1, 0), 1);
        told(line, 1, -1, 0, 0, 0, 1, 1, 0, 1, 1, 1, 0, 1);
        due("by way 1, HIGH", line.cut(1, 0, 5), 1);
        told(line, 1, -1, 0, 0, 0, 1, 1, 0, 1, 1, 1, 0, 1);
        due("by way 1, LOW", line.cut(1, 1, 5), 1);
        told(line, -1, 1, 0, 1, 1, 1, 1, 0, 1, 1, 1, 0, 1);

        words(0, "no number above 1 goes into all three");
        SplitSlices two = with("+2x+2y<3");
        due("2 goes into a and b alone", two.cut(0, 0, 0), 1);
        told(two, 2, 2, 3, 0, 0, 1, 1, 0, 1, 1, 1, 0, 1);
        SplitSlices four = with("+2x+4y<8");
        due("2 goes into all", four.cut(0, 0, 0), 1);
        told(four, 1, 2, 4, 0, 0, 1, 2, 0, 1, 1, 2, 0, 1);
        SplitSlices zero = with("-3x+3y<0");
        due("c 0", zero.cut(0, 0, 0), 1);
        told(zero, -1, 1, 0, 0, 0, 1, 3, 0, 1, 1, 3, 0, 1);
        SplitSlices level = with("+0x+2y<5");
        due("a 0", level.cut(0, 0, 3), 1);
        told(level, 0, 2, 5, 0, 0, 1, 1, 0, 1, 1, 1, 0, 1);
    }

    private static void proofs() {
        words(0, "a ROW i and multipliers u, s; a ROW j and multipliers v, t, none below 0");
        SplitSlices peak = with("-2x+3y<4;+4x+5y<40");
        due("both slope away", peak.cut(0, 0, 4), 1);
        told(peak, 0, 1, 4, 0, 1, 1, 3, 2, 3, 1, 5, 4, 5);
        SplitSlices pit = with("-3x-1y<-8;+3x-1y<7");
        due("LOWS", pit.cut(0, 1, 2), 1);
        told(pit, 0, -1, -2, 0, 1, 1, 1, 3, 1, 1, 1, 3, 1);
        due("HIGHS of the last of the four", pit.cut(0, 0, 2), 1);
        told(pit, 0, 1, 6, 5, 5, 1, 1, 0, 1, 1, 1, 0, 1);

        words(0, "ROW i is the first on which the HIGH (LOW) at k lies exactly and that bounds it there from that SIDE");
        SplitSlices first = with("+1x+1y<4;-1x+1y<2");
        due("the first of two that meet", first.cut(0, 0, 1), 1);
        told(first, 1, 1, 4, 0, 0, 1, 1, 0, 1, 1, 1, 0, 1);
        SplitSlices other = with("-1x+1y<2;+1x+1y<4");
        due("the first of two that meet", other.cut(0, 0, 1), 1);
        told(other, 1, 1, 4, 0, 1, 1, 1, 2, 1, 1, 1, 0, 1);
        due("ROW j the same at k + 1", other.cut(0, 0, 0), 1);
        told(other, -1, 1, 2, 0, 0, 1, 1, 0, 1, 1, 1, 0, 1);
        due("ROW j the same at k + 1", first.cut(0, 0, 0), 1);
        told(first, -1, 1, 2, 1, 0, 1, 1, 0, 1, 1, 1, 2, 1);
        SplitSlices told = with("+5x+0y<0;+0x+1y<6;+0x+2y<12");
        due("told ones stand ahead of the four", told.cut(1, 0, 0), 1);
        told(told, 1, 0, 0, 0, 0, 1, 5, 0, 1, 1, 5, 0, 1);

        words(0, "way 0, SIDE 0: b above 0, SIDE 1: b below 0; way 1: a likewise");
        SplitSlices corner = with("+1x-1y<0;-1x+0y<0;-1x+1y<0");
        due("b 0 and b below 0 do not bound HIGH", corner.cut(0, 0, 0), 1);
        told(corner, -1, 1, 0, 2, 2, 1, 1, 0, 1, 1, 1, 0, 1);
        due("b 0 and b above 0 do not bound LOW", with("-1x+1y<0;-1x+0y<0;+1x-1y<0").cut(0, 1, 0), 1);
        due("a 0 does not bound by way 1", with("+0x-1y<0;-1x+1y<0;+1x-1y<0").cut(1, 0, 0), 1);
        SplitSlices aside = with("+0x-1y<0;-1x+1y<0;+1x-1y<0");
        due("HIGH: a above 0", aside.cut(1, 0, 0), 1);
        told(aside, 1, -1, 0, 2, 2, 1, 1, 0, 1, 1, 1, 0, 1);
        due("LOW: a below 0", aside.cut(1, 1, 0), 1);
        told(aside, -1, 1, 0, 1, 1, 1, 1, 0, 1, 1, 1, 0, 1);
    }

    private static void store() {
        words(0, "STORE: CUTS with their PROOFS, as they were when they were stored (8 at most)");
        SplitSlices s = with("+2x+2y<3");
        due("stored", s.stores(0, 0, 0), 1);
        due("rows change", s.becomes(0, 9), 103);
        s.checks(0);
        told(s, 2, 2, 3);
        due("the CUT is another now", s.cut(0, 0, 0), 1);
        told(s, 2, 2, 9, 0, 0, 1, 1, 0, 1, 1, 1, 0, 1);
        due("stored, too", s.stores(0, 0, 0), 2);
        s.checks(0);
        told(s, 2, 2, 3);
        s.checks(1);
        told(s, 2, 2, 9);
        for (int i = 3; i <= 8; i++) {
            due("up to 8", s.stores(0, 0, 0), i);
        }
        due("no ninth", s.stores(0, 0, 0), -3);
        due("no ninth", s.count(1), 8);
    }

    private static void checking() {
        words(0, "ROWS i and j are there");
        SplitSlices s = with("+1x+0y<6;+1x+0y<6");
        due("of ROW 5, the last", s.stores(0, 0, 0), 1);
        due("there", s.checks(0), 1);
        s.drops(1);
        due("ROW 5 is not there", s.checks(0), 0);
        due("a ROW more", s.adds(1, 0, 6), 2);
        due("there again", s.checks(0), 1);
        due("a ROW more", s.adds(1, 0, 6), 3);
        due("ROW 5 is another, b -1", s.checks(0), 0);

        words(0, "has the a and b of the CUT");
        SplitSlices other = with("+2x+2y<3");
        due("stored", other.stores(0, 0, 0), 1);
        due("goes", other.drops(0), 0);
        due("another b", other.adds(2, 1, 3), 1);
        due("another b", other.checks(0), 0);
        due("another a", other.drops(0) == 0 && other.adds(1, 2, 3) == 1, true);
        due("another a", other.checks(0), 0);
        due("a third of it", other.drops(0) == 0 && other.adds(1, 1, 1) == 1, true);
        due("as far, but not with u", other.checks(0), 0);
        due("as it was", other.drops(0) == 0 && other.adds(2, 2, 3) == 1, true);
        due("as it was", other.checks(0), 1);

        words(0, "what it is at most is not above c");
        SplitSlices both = with("-2x+3y<4;+4x+5y<40");
        due("stored", both.stores(0, 0, 4), 1);
        due("exactly c", both.checks(0), 1);
        due("ROW i", both.becomes(0, 3), 104);
        due("below c", both.checks(0), 1);
        due("ROW i", both.becomes(0, 5), 103);
        due("above c", both.checks(0), 0);
        due("ROW i", both.becomes(0, 4), 105);

        words(0, "and likewise v, ROW j, t");
        due("ROW j", both.becomes(1, 39), 140);
        due("below c", both.checks(0), 1);
        due("ROW j", both.becomes(1, 41), 139);
        due("above c", both.checks(0), 0);
        due("both", both.becomes(0, 5), 104);
        due("both above c", both.checks(0), 0);
        SplitSlices aside = with("+3x-2y<4;+5x+4y<40");
        due("stored, way 1", aside.stores(1, 0, 4), 1);
        due("exactly c", aside.checks(0), 1);
        due("ROW j", aside.becomes(1, 41), 140);
        due("above c", aside.checks(0), 0);
        due("ROW j", aside.becomes(1, 40), 141);
        due("ROW i", aside.becomes(0, 5), 104);
        due("above c", aside.checks(0), 0);
    }

    /** Rows, a full store, a text and a row of numbers, so that a change of any of them can be seen. */
    private static SplitSlices filled() {
        SplitSlices s = with("+2x+2y<9;-1x+1y<2;+1x-1y<3");
        for (int i = 0; i < 7; i++) {
            s.stores(i % 2, i / 2 % 2, 1);
        }
        s.stores(0, 0, 2);
        s.keep(0);
        s.becomes(0, 10);
        type(s, "cc+1x");
        s.slice(0, 0, 1);
        return s;
    }

    private static void questions() {
        words(0, "Questions change nothing");
        String want = state(filled());
        SplitSlices s = filled();
        s.row(0, 0);
        s.slice(2, 0, 0);
        s.inside(3, 1, 1, 2);
        s.round(1, 1, 2);
        s.splits(2, 1, 1, 2);
        s.slices(1);
        s.cut(0, 0, 1);
        s.checks(0);
        due("stronger", s.stronger(7), 4);
        s.breaks(1, 1, 2);
        s.wholes();
        s.hull();
        s.nearest(1, 1, 2);
        for (int what = 0; what < 4; what++) {
            s.most(1, 2, what);
        }
        s.gains(1, 2);
        s.loses(1, 1, 1);
        s.tightest();
        s.years(5, 20);
        for (int what = 0; what <= 6; what++) {
            s.count(what);
        }
        s.told(0);
        due("state", state(s), want);
        due("what was kept", s.again(0), true);
        rowsAre(s, 2, 2, 9, -1, 1, 2, 1, -1, 3);
    }

    private static void refusedCalls() {
        words(0, "Refused calls answer NONE, or false, and change nothing but THE TEXT");
        SplitSlices s = filled();
        String numbers = numbers(s);
        String want = state(filled());
        refuseAll(s);
        due("ROW OF NUMBERS", numbers(s), numbers);
        due("state", state(s), want);
        due("what was kept", s.again(0), true);
        rowsAre(s, 2, 2, 9, -1, 1, 2, 1, -1, 3);
        SplitSlices full = filled();
        type(full, "?".repeat(72));
        String text = state(full);
        refused("78 signs", full.sign(0));
        due("state", state(full), text);

        words(0, "THE TEXT, which a call that reads it empties");
        due("refused rows()", s.rows(), -1);
        due("emptied", s.count(5), 0);
        due("by numbers", rows(s, "+0x+0y<1"), -100);
        due("emptied", s.count(5), 0);
        due("refused day()", day(s, "c!"), -2);
        due("emptied", s.count(5), 0);
        due("rows() that is done", rows(s, "+1x+1y<3"), 1);
        due("emptied", s.count(5), 0);
        due("day() that is done", day(s, "c"), 1);
        due("emptied", s.count(5), 0);
        due("day() of which none was done", day(s, "d9"), 0);
        due("emptied", s.count(5), 0);
    }

    /** Calls that are refused in any state. */
    private static void refuseAll(SplitSlices s) {
        long[] answers = {s.sheet(-1, 1, 1, 1), s.sheet(4, 1, 1, 1), s.sheet(0, 7, 1, 1), s.sheet(3, 7, 1, 1),
            s.becomes(-1, 1), s.becomes(6, 1), s.becomes(0, 51), s.becomes(0, -51), s.adds(0, 0, 1), s.adds(6, 0, 1),
            s.adds(1, 1, 51), s.drops(-1), s.drops(6), s.slice(3, 0, 0), s.slice(0, 2, 0), s.slice(0, 0, 7),
            s.inside(4, 0, 0, 1), s.inside(0, 0, 0, 0), s.round(0, 0, 13), s.splits(3, 0, 0, 1), s.splits(0, 7, 0, 1),
            s.slices(3), s.slices(-1), s.cut(2, 0, 0), s.cut(0, 2, 0), s.cut(0, 0, 6), s.stores(2, 0, 0),
            s.stores(0, 2, 0), s.stores(0, 0, 6), s.checks(-1), s.checks(8), s.stronger(-1), s.stronger(8),
            s.breaks(0, 7, 1), s.nearest(0, -1, 1), s.most(10, 0, 0), s.most(0, 0, 4), s.gains(0, 10),
            s.loses(0, 0, 1), s.years(1, 0), s.years(1, 21), s.count(7), s.count(-1)};
        for (int i = 0; i < answers.length; i++) {
            refused("call " + i, answers[i]);
        }
        boolean[] said = {s.end(-1), s.end(81), s.keep(2), s.keep(-1), s.again(1), s.again(2), s.again(-1)};
        for (int i = 0; i < said.length; i++) {
            due("call " + i, said[i], false);
        }
    }

    private static void noneFirst() {
        words(0, "NONE comes ahead of other answers below 0");
        SplitSlices none = with("+1x+0y<-1");
        refused("sheet: kind ahead of n", none.sheet(4, -1, 0, 0));
        refused("becomes: one of the four, as it is", none.becomes(1, 0));
        refused("splits: r ahead of not in it", none.splits(3, 0, 0, 1));
        refused("splits: d ahead of not in it", none.splits(0, 0, 0, 13));
        refused("round: d ahead", none.round(0, 0, 0));
        refused("cut: k ahead of an empty SLICE", none.cut(0, 0, 6));
        refused("stores: SIDE ahead of an empty SLICE", none.stores(0, 2, 0));
        refused("breaks: d ahead of none stored", none.breaks(0, 0, 0));
        refused("nearest: x ahead of none", none.nearest(7, 0, 1));
        refused("most: a ahead of no POINT", none.most(10, 0, 0));
        refused("most: what ahead of no POINT", none.most(0, 0, 4));
        refused("gains: b ahead of no WHOLE POINT", none.gains(0, -10));
        SplitSlices full = filled();
        refused("stores: way ahead of 8", full.stores(2, 0, 0));
        for (int i = 4; i <= 6; i++) {
            full.adds(1, 1, 9);
        }
        refused("adds: a ahead of 6", full.adds(6, 0, 0));
        refused("adds: c ahead of 6", full.adds(1, 1, 51));
        refused("adds: both 0 ahead of 6", full.adds(0, 0, 1));
    }

    private static void rowOfNumbersStays() {
        words(0, "the ROW OF NUMBERS stays with each answer that tells of a refusal or that there is none");
        SplitSlices none = with("+1x+0y<-1");
        none.tightest();
        none.slices(0);
        long[] row = {0, 0, 0, 1};
        told(none, row);
        due("empty", none.slice(0, 0, 0), 0);
        due("not in it", none.splits(0, 0, 0, 1), -2);
        due("empty", none.cut(0, 0, 0), -2);
        due("empty", none.stores(0, 0, 0), -2);
        due("none stored", none.breaks(0, 0, 1), -2);
        due("none", none.nearest(0, 0, 1), -2);
        for (int what = 0; what < 4; what++) {
            due("no such POINT", none.most(1, 1, what), -2);
        }
        due("none", none.gains(1, 1), -2);
        due("a sign", day(none, "!"), -1);
        due("a sign", rows(none, "!"), -1);
        refused("no such", none.checks(0));
        refused("no such", none.stronger(0));
        refused("n", none.years(1, 0));
        told(none, row);
        due("without rows", none.drops(0), 0);
        due("none was told", none.tightest(), -2);
        told(none, row);

        words(0, "and with calls that do not tell of it");
        SplitSlices s = with("+1x+1y<5");
        s.slice(0, 0, 3);
        long[] four = {0, 1, 2, 1};
        told(s, four);
        s.becomes(0, 4);
        s.adds(1, 0, 3);
        s.sheet(2, 2, 5, 1);
        s.drops(1);
        s.row(0, 0);
        due("inside", s.inside(0, 1, 1, 1), 1);
        due("round", s.round(1, 1, 1), -2);
        due("stores", s.stores(0, 0, 0), 1);
        due("clears", s.clears(), 1);
        due("undo", s.undo() >= 0, true);
        due("keep", s.keep(0), true);
        due("again", s.again(0), true);
        due("rows", rows(s, "+1x+1y<3"), 1);
        told(s, four);
    }
}
