/** Promises 10 to 14, sentence by sentence: regions at their edges. Worked out by hand. */
public final class RegionsEdgeTests extends Check {
    private static final int LEAST = Integer.MIN_VALUE;
    private static final int GREATEST = Integer.MAX_VALUE;

    /** Of REGION 0 nothing has a whole x. */
    private static final String THIN = "+2x+0y<1;-3x+0y<-1";

    /**
     * x + y is at most 12/5. HIGHS at 0, 1, 2, by both ways: 12/5, 7/5, 2/5 in REGION 0; 2, 7/5, 2/5 in REGION 1;
     * 2, 7/5, 0 in REGION 2.
     */
    private static final String STEPS = "+5x+5y<12";
    private static final long[][] HIGHS = {{12, 5, 7, 5, 2, 5}, {2, 1, 7, 5, 2, 5}, {2, 1, 7, 5, 0, 1}};

    /** Likewise, x + y at most 14/5: HIGHS that are just below whole numbers. */
    private static final long[][] NEAR_HIGHS = {{14, 5, 9, 5, 4, 5}, {2, 1, 9, 5, 4, 5}, {2, 1, 9, 5, 0, 1}};

    public static void main(String[] args) {
        slice();
        inside();
        round();
        splits();
        slices();
        close("edges of regions");
    }

    private static void slice() {
        words(10, "The SLICE of REGION r (0 .. 2) at k: 1, and the ROW: LOW, HIGH (four numbers)");
        for (int turned = 0; turned < 4; turned++) {
            slicesOfSteps(turned(turned, 12), turned, HIGHS);
            slicesOfSteps(turned(turned, 14), turned, NEAR_HIGHS);
        }
        SplitSlices line = with("+0x+1y<2;+0x-1y<-2");
        for (int r = 0; r <= 2; r++) {
            due("no SLICES beside that of y = 2", line.slice(r, 0, 3), 1);
            told(line, 2, 1, 2, 1);
            due("y = 2", line.slice(r, 1, 2), 1);
            told(line, 0, 1, 6, 1);
        }
        SplitSlices box = new SplitSlices();
        for (int r = 0; r <= 2; r++) {
            due("the first of REGION " + r, box.slice(r, 0, 0), 1);
            due("the last of REGION " + r, box.slice(r, 1, 6), 1);
            told(box, 0, 1, 6, 1);
        }

        SplitSlices raised = with("+0x-1y<-3;+0x+1y<4");
        due("from 3 to 4", raised.slice(0, 0, 0), 1);
        told(raised, 3, 1, 4, 1);
        due("rows go", day(raised, "d0d0"), 2);
        due("from 0 to 6", raised.slice(0, 0, 0), 1);
        told(raised, 0, 1, 6, 1);

        words(10, "0: it is empty");
        SplitSlices s = with(STEPS);
        for (int r = 0; r <= 2; r++) {
            due("behind the last", s.slice(r, 0, 3), 0);
            due("behind the last", s.slice(r, 1, 6), 0);
        }
        SplitSlices thin = with(THIN);
        due("x = 0", thin.slice(0, 0, 0), 0);
        due("y = 0", thin.slice(0, 1, 0), 1);
        told(thin, 1, 3, 1, 2);
        due("y = 0, REGION 1", thin.slice(1, 1, 0), 0);
        due("y = 0, REGION 2", thin.slice(2, 1, 0), 0);
        told(thin, 1, 3, 1, 2);
        SplitSlices later = with("+2x+2y<3;-2x-2y<-3");
        due("REGION 1", later.slice(0, 0, 1), 1);
        told(later, 1, 2, 1, 2);
        due("there in REGION 1", later.slice(1, 0, 1), 1);
        due("there in REGION 2", later.slice(2, 0, 1), 0);
        due("x = 0 has none in REGION 1", later.slice(1, 0, 0), 0);

        due("rows have changed", rows(later, "+1x+1y<3"), 1);
        due("it is not any more", later.slice(2, 0, 1), 1);
        due("rows have changed", later.undo(), 1);
        due("it is again", later.slice(2, 0, 1), 0);
        due("in REGION 1, too", later.slice(1, 0, 0), 0);

        words(10, "NONE: another r, way, k");
        int[][] none = {{3, 0, 0}, {-1, 0, 0}, {LEAST, 0, 0}, {GREATEST, 0, 0}, {0, 2, 0}, {0, -1, 0}, {0, LEAST, 0},
            {0, GREATEST, 0}, {0, 0, 7}, {0, 0, -1}, {0, 0, LEAST}, {0, 0, GREATEST}, {2, 1, 7}, {3, 2, 7}};
        for (int[] n : none) {
            refused("slice(" + n[0] + ", " + n[1] + ", " + n[2] + ")", s.slice(n[0], n[1], n[2]));
        }
    }

    private static void slicesOfSteps(SplitSlices s, int turned, long[][] highs) {
        for (int r = 0; r <= 2; r++) {
            for (int k = 0; k <= 2; k++) {
                long up = highs[r][2 * k];
                long low = highs[r][2 * k + 1];
                sliceOfSteps(s, r, 0, turnedBack(k, 1, turned & 1), up, low, turned >> 1);
                sliceOfSteps(s, r, 1, turnedBack(k, 1, turned >> 1), up, low, turned & 1);
            }
        }
    }

    /** HIGH is told; if the other unknown is turned, 6 less it is LOW and 6 is HIGH. */
    private static void sliceOfSteps(SplitSlices s, int r, int way, int k, long up, long low, int isTurned) {
        due("slice(" + r + ", " + way + ", " + k + ")", s.slice(r, way, k), 1);
        if (isTurned == 0) {
            told(s, 0, 1, up, low);
        } else {
            told(s, 6 * low - up, low, 6, 1);
        }
    }

    /** 5 x + 5 y at most c, with 6 less x for x (1), 6 less y for y (2), or both (3). */
    private static SplitSlices turned(int turned, int c) {
        int turnedX = turned & 1;
        int turnedY = turned >> 1;
        SplitSlices s = new SplitSlices();
        due("adds", s.adds(5 - 10 * turnedX, 5 - 10 * turnedY, c - 30 * turnedX - 30 * turnedY), 1);
        return s;
    }

    private static int turnedBack(int z, int d, int isTurned) {
        return isTurned == 0 ? z : 6 * d - z;
    }

    private static void inside() {
        words(11, "Whether the POINT (x by d, y by d) is in REGION r (0 .. 3): 1, 0");
        int[][] points = {{3, 0, 1, 0}, {0, 28, 12, 1}, {24, 4, 12, 2}, {12, 16, 12, 3}, {6, 6, 5, 3}, {12, 12, 12, 4},
            {0, 2, 1, 4}, {0, 0, 12, 4}};
        for (int turned = 0; turned < 4; turned++) {
            SplitSlices s = turned(turned, 12);
            for (int[] p : points) {
                int x = turnedBack(p[0], p[2], turned & 1);
                int y = turnedBack(p[1], p[2], turned >> 1);
                for (int r = 0; r <= 3; r++) {
                    due("(" + x + ", " + y + ") by " + p[2] + ", REGION " + r, s.inside(r, x, y, p[2]), r < p[3] ? 1 : 0);
                }
            }
        }
        SplitSlices line = with("+0x+1y<2;+0x-1y<-2");
        due("on a line", line.inside(3, 1, 4, 2), 1);
        due("beside it", line.inside(0, 12, 25, 12), 0);

        words(11, "NONE: another r, d is not 1 .. 12, x or y is not 0 .. 6 d");
        SplitSlices box = new SplitSlices();
        for (int d = 1; d <= 12; d++) {
            due("0", box.inside(3, 0, 0, d), 1);
            due("6 d", box.inside(3, 6 * d, 6 * d, d), 1);
            refused("x above 6 d", box.inside(0, 6 * d + 1, 0, d));
            refused("y above 6 d", box.inside(0, 0, 6 * d + 1, d));
            refused("x below 0", box.inside(0, -1, 0, d));
            refused("y below 0", box.inside(0, 0, -1, d));
        }
        for (int r : new int[] {4, -1, LEAST, GREATEST}) {
            refused("r " + r, box.inside(r, 0, 0, 1));
        }
        notPoints((x, y, d) -> box.inside(0, x, y, d));
        notPoints((x, y, d) -> box.inside(3, x, y, d));
    }

    private static void round() {
        words(12, "The first REGION, 0 .. 3, in which the POINT (x by d, y by d) is not: it");
        SplitSlices s = with(STEPS);
        due("0", s.round(29, 0, 12), 0);
        due("1", s.round(28, 0, 12), 1);
        due("1", s.round(25, 0, 12), 1);
        due("2", s.round(4, 24, 12), 2);
        due("3", s.round(16, 12, 12), 3);
        due("none has a whole x", with(THIN).round(5, 0, 12), 1);

        words(12, "-2: it is in all of them");
        due("x = 2", s.round(24, 0, 12), -2);
        due("9 by 7 is the HIGH at 1 of REGION 3", s.round(7, 9, 7), -2);
        due("a WHOLE POINT", s.round(1, 1, 1), -2);
        due("the last corner", new SplitSlices().round(72, 72, 12), -2);

        words(12, "NONE: as inside()");
        notPoints((x, y, d) -> s.round(x, y, d));
    }

    private static void splits() {
        words(13, "By how many ways (0 .. 2) the POINT (x by d, y by d) does not pass REGION r (0 .. 2)");
        int[][] due = {{0, 28, 0, 12, 1, 1, 0}, {0, 0, 28, 12, 1, 0, 1}, {0, 6, 6, 5, 0, 0, 0}, {1, 6, 6, 5, 0, 0, 0},
            {2, 6, 6, 5, 2, 1, 1}, {1, 24, 4, 12, 1, 0, 1}, {1, 4, 24, 12, 1, 1, 0}, {2, 12, 16, 12, 1, 0, 1},
            {2, 16, 12, 12, 1, 1, 0}, {2, 1, 1, 1, 0, 0, 0}, {2, 0, 0, 12, 0, 0, 0}};
        for (int turned = 0; turned < 4; turned++) {
            SplitSlices t = turned(turned, 12);
            for (int[] p : due) {
                int x = turnedBack(p[1], p[3], turned & 1);
                int y = turnedBack(p[2], p[3], turned >> 1);
                due("REGION " + p[0] + ", (" + x + ", " + y + ")", t.splits(p[0], x, y, p[3]), p[4]);
                told(t, p[5], p[6]);
            }
        }

        words(13, "-2: it is not in REGION r");
        SplitSlices s = with(STEPS);
        due("REGION 0", s.splits(0, 29, 0, 12), -2);
        due("REGION 1", s.splits(1, 28, 0, 12), -2);
        due("REGION 2", s.splits(2, 4, 24, 12), -2);
        due("none at all", with("+1x+0y<-1").splits(0, 0, 0, 1), -2);

        words(13, "NONE: another r, others as inside()");
        for (int r : new int[] {3, -1, LEAST, GREATEST}) {
            refused("r " + r, s.splits(r, 0, 0, 1));
        }
        notPoints((x, y, d) -> s.splits(0, x, y, d));
        notPoints((x, y, d) -> s.splits(2, x, y, d));
    }

    private static void slices() {
        words(14, "How many SLICES of REGION r (0 .. 2), both ways, are not empty: how many; the ROW: how many of way 0, of way 1");
        SplitSlices box = new SplitSlices();
        due("all", box.slices(0), 14);
        told(box, 7, 7, 6, 1);
        SplitSlices low = with("+0x+1y<1");
        due("way 1 has fewer", low.slices(0), 9);
        told(low, 7, 2, 1, 1);
        SplitSlices one = with("+1x+1y<0");
        due("one POINT", one.slices(0), 2);
        told(one, 1, 1, 0, 1);

        words(14, "and, of r 0 and 1 alone, the greatest HIGH less LOW of one of way 0");
        SplitSlices s = with(STEPS);
        due("REGION 0", s.slices(0), 6);
        told(s, 3, 3, 12, 5);
        due("REGION 1", s.slices(1), 6);
        told(s, 3, 3, 2, 1);
        due("REGION 2", s.slices(2), 6);
        told(s, 3, 3);
        SplitSlices pit = with("-1x-1y<-3;+2x-2y<5");
        // LOWS by x: 3, 2, 1, 1/2, 3/2, 5/2, 7/2
        due("not the first", pit.slices(0), 13);
        told(pit, 7, 6, 11, 2);
        SplitSlices line = with("+1x-1y<0;-1x+1y<0");
        due("each has one POINT", line.slices(0), 14);
        told(line, 7, 7, 0, 1);

        words(14, "0 and 1 without any");
        SplitSlices thin = with(THIN);
        due("none of way 0", thin.slices(0), 7);
        told(thin, 0, 7, 0, 1);
        due("REGION 1", thin.slices(1), 0);
        told(thin, 0, 0, 0, 1);
        due("REGION 2", thin.slices(2), 0);
        told(thin, 0, 0);
        SplitSlices none = with("+1x+0y<-1");
        due("no POINT", none.slices(0), 0);
        told(none, 0, 0, 0, 1);

        words(14, "NONE: another r");
        for (int r : new int[] {3, -1, LEAST, GREATEST}) {
            refused("r " + r, box.slices(r));
        }
    }
}
