/** Promises 21 to 27, sentence by sentence: whole points and sums at their edges. Worked out by hand. */
public final class PointsEdgeTests extends Check {
    private static final int LEAST = Integer.MIN_VALUE;
    private static final int GREATEST = Integer.MAX_VALUE;

    /** Of REGION 0 nothing has a whole x (a whole y; either). */
    private static final String THIN = "+2x+0y<1;-3x+0y<-1";
    private static final String FLAT = "+0x+2y<1;+0x-3y<-1";
    private static final String SMALL = THIN + ";" + FLAT;

    /** SLICES by both ways, no WHOLE POINT. */
    private static final String HALVES = "+2x+2y<3;-2x-2y<-3";
    private static final String NO_POINT = "+1x+0y<-1";

    public static void main(String[] args) {
        wholes();
        hull();
        nearest();
        most();
        noMost();
        gains();
        loses();
        tightest();
        close("edges of whole points");
    }

    private static void wholes() {
        words(21, "how many; the ROW: x and y of the first (the least x, then the least y), of the last");
        SplitSlices box = new SplitSlices();
        due("all", box.wholes(), 49);
        told(box, 0, 0, 6, 6);
        SplitSlices upright = with("+1x+0y<2;-1x+0y<-2");
        due("one x", upright.wholes(), 7);
        told(upright, 2, 0, 2, 6);
        SplitSlices slant = with("+1x+1y<4;-1x-1y<-4");
        due("x ahead of y", slant.wholes(), 5);
        told(slant, 0, 4, 4, 0);
        SplitSlices one = with("-1x-1y<-12");
        due("the last corner alone", one.wholes(), 1);
        told(one, 6, 6, 6, 6);
        SplitSlices edge = with("+2x+0y<11;-2x+0y<-11");
        due("between whole numbers", edge.wholes(), 0);

        words(21, "nothing without");
        one.adds(1, 1, 11);
        due("none", one.wholes(), 0);
        told(one);
        SplitSlices halves = with(HALVES);
        halves.slice(0, 0, 0);
        due("none, but SLICES", halves.wholes(), 0);
        told(halves);
    }

    private static void hull() {
        words(22, "its corners (no one between two others): how many");
        SplitSlices box = new SplitSlices();
        due("four, none on the sides", box.hull(), 4);
        told(box, 0, 0, 6, 0, 6, 6, 0, 6);
        SplitSlices cutOff = with("+2x+2y<3");
        due("of WHOLE POINTS alone", cutOff.hull(), 3);
        told(cutOff, 0, 0, 1, 0, 0, 1);

        words(22, "the first (the least x, then the least y) first, then going round with the inside to the left");
        SplitSlices eight = with("+1x+1y<10;-1x-1y<-2;+1x-1y<4;-1x+1y<4");
        due("eight", eight.hull(), 8);
        told(eight, 0, 2, 2, 0, 4, 0, 6, 2, 6, 4, 4, 6, 2, 6, 0, 4);
        SplitSlices turned = with("-1x-1y<-6;-1x+1y<3");
        due("the first is not the lowest", turned.hull(), 5);
        told(turned, 2, 4, 6, 0, 6, 6, 3, 6, 2, 5);

        words(22, "two ends of a line: these");
        String[] lines = {"+1x-1y<0;-1x+1y<0", "+1x+1y<4;-1x-1y<-4", "+1x+0y<0", "+0x+1y<0", "+1x-2y<0;-1x+2y<0",
            "+1x+1y<1;-1x-1y<-1"};
        long[][] ends = {{0, 0, 6, 6}, {0, 4, 4, 0}, {0, 0, 0, 6}, {0, 0, 6, 0}, {0, 0, 6, 3}, {0, 1, 1, 0}};
        for (int i = 0; i < lines.length; i++) {
            SplitSlices line = with(lines[i]);
            due(lines[i], line.hull(), 2);
            told(line, ends[i]);
        }

        words(22, "one POINT: it; nothing without");
        SplitSlices one = with("-1x+0y<-6;+0x+1y<0");
        due("one", one.hull(), 1);
        told(one, 6, 0);
        one.adds(1, 1, 5);
        due("none", one.hull(), 0);
        told(one);
        SplitSlices halves = with(HALVES);
        halves.slice(0, 0, 0);
        due("none, but SLICES", halves.hull(), 0);
        told(halves);
    }

    private static void nearest() {
        words(23, "of equally near ones that of the least x, then the least y): how many are as near as it (it, too)");
        SplitSlices box = new SplitSlices();
        due("four", box.nearest(3, 3, 2), 4);
        told(box, 1, 1, 1, 2);
        due("two, beside", box.nearest(3, 2, 2), 2);
        told(box, 1, 1, 1, 4);
        due("two, above", box.nearest(2, 3, 2), 2);
        told(box, 1, 1, 1, 4);
        due("it alone", box.nearest(0, 0, 12), 1);
        told(box, 0, 0, 0, 1);
        SplitSlices ring = with("-1x-1y<-6;+1x+1y<6");
        due("the middle of a line", ring.nearest(0, 0, 1), 1);
        told(ring, 3, 3, 18, 1);
        due("two of a line", ring.nearest(5, 7, 2), 2);
        told(ring, 2, 4, 1, 2);
        SplitSlices corners = with("+1x+1y<1;-1x-1y<-1");
        due("the lesser x has the greater y", corners.nearest(0, 0, 1), 2);
        told(corners, 0, 1, 1, 1);

        words(23, "the square of how far it is (two numbers)");
        due("the farthest", with("+1x+1y<0").nearest(72, 72, 12), 1);
        SplitSlices far = with("+1x+1y<0");
        due("the farthest", far.nearest(71, 72, 12), 1);
        told(far, 0, 0, 10225, 144);
        due("0", far.nearest(0, 0, 7), 1);
        told(far, 0, 0, 0, 1);
        due("as small as can be", far.nearest(4, 6, 12), 1);
        told(far, 0, 0, 13, 36);

        words(23, "-2: there is none");
        far.adds(1, 1, -1);
        due("none", far.nearest(0, 0, 1), -2);
        due("none, but SLICES", with(HALVES).nearest(0, 0, 1), -2);

        words(23, "NONE: as inside()");
        notPoints((x, y, d) -> box.nearest(x, y, d));
        notPoints((x, y, d) -> far.nearest(x, y, d));
    }

    private static void most() {
        words(24, "The most of a x + b y (a, b -9 .. 9)");
        SplitSlices box = new SplitSlices();
        SplitSlices last = with("-1x-1y<-12");
        for (int what = 0; what <= 3; what++) {
            due("9, 9", box.most(9, 9, what), 0);
            told(box, 108, 1);
            due("-9, -9", box.most(-9, -9, what), 0);
            told(box, 0, 1);
            due("0, 0", box.most(0, 0, what), 0);
            told(box, 0, 1);
            due("-9, -9 of one POINT", last.most(-9, -9, what), 0);
            told(last, -108, 1);
            due("9, -9 of one POINT", last.most(9, -9, what), 0);
            told(last, 0, 1);
        }

        words(24, "what 0: over REGION 0, 1: over POINTS that pass it by way 0, 2: by way 1, 3: over WHOLE POINTS of REGION 0");
        SplitSlices s = with("-4x+2y<5;+2x+4y<25");
        // a corner at (3/2, 11/2); HIGHS at x = 1, 2: 9/2, 21/4; at y = 5 x goes from 5/4 to 5/2; WHOLE: (2, 5)
        due("REGION 0", s.most(0, 1, 0), 0);
        told(s, 11, 2);
        due("by way 0", s.most(0, 1, 1), 0);
        told(s, 21, 4);
        due("by way 1", s.most(-1, 9, 2), 0);
        told(s, 175, 4);
        due("WHOLE", s.most(-1, 9, 3), 0);
        told(s, 43, 1);
        SplitSlices corner = with("-1x+1y<2;+0x+1y<4");
        due("a corner of two told ROWS", corner.most(-1, 2, 0), 0);
        told(corner, 6, 1);
        SplitSlices other = with("+0x+1y<4;-1x+1y<2");
        due("in the other order", other.most(-1, 2, 0), 0);
        told(other, 6, 1);
    }

    private static void noMost() {
        words(24, "-2: there is no such POINT");
        int[][] due = {{0, -2, 0, -2}, {0, 0, -2, -2}, {0, -2, -2, -2}, {0, 0, 0, -2}, {-2, -2, -2, -2}};
        String[] texts = {THIN, FLAT, SMALL, HALVES, NO_POINT};
        for (int i = 0; i < texts.length; i++) {
            SplitSlices s = with(texts[i]);
            for (int what = 0; what <= 3; what++) {
                due(texts[i] + ", what " + what, s.most(0, 0, what), due[i][what]);
            }
        }

        words(24, "NONE: others");
        SplitSlices s = with(NO_POINT);
        int[][] none = {{10, 0, 0}, {-10, 0, 0}, {LEAST, 0, 0}, {GREATEST, 0, 0}, {0, 10, 0}, {0, -10, 0}, {0, LEAST, 0},
            {0, GREATEST, 0}, {0, 0, 4}, {0, 0, -1}, {0, 0, LEAST}, {0, 0, GREATEST}};
        for (int[] n : none) {
            refused("most(" + n[0] + ", " + n[1] + ", " + n[2] + ")", s.most(n[0], n[1], n[2]));
            refused("with POINTS", new SplitSlices().most(n[0], n[1], n[2]));
        }
    }

    private static void gains() {
        words(25, "most() of what 0 less most() of what 1, or 2, whichever is the lesser one: the way (of equal ones 0)");
        SplitSlices box = new SplitSlices();
        due("nothing", box.gains(9, 9), 0);
        told(box, 0, 1, 0, 1);
        due("nothing", box.gains(-9, -9), 0);
        told(box, 0, 1, 0, 1);
        due("a sum of 0", box.gains(0, 0), 0);
        told(box, 0, 1, 0, 1);
        SplitSlices half = with("+1x+2y<5");
        due("way 1 alone", half.gains(0, 1), 1);
        told(half, 1, 2, 1, 2);
        SplitSlices aside = with("+2x+1y<5");
        due("way 0 alone", aside.gains(1, 0), 0);
        told(aside, 1, 2, 1, 2);
        SplitSlices peak = with("-1x+1y<2;+1x+1y<7");
        due("equal ones", peak.gains(0, 1), 0);
        told(peak, 1, 2, 1, 2);

        words(25, "that difference (two numbers), and that to most() of what 3 (two numbers)");
        SplitSlices gap = with("-4x+2y<5;+2x+4y<25");
        due("11 by 2, 21 by 4, 5, 5", gap.gains(0, 1), 1);
        told(gap, 1, 2, 1, 2);
        due("-9, 9: 36; by way 0 63 by 2, by way 1 135 by 4; 27", gap.gains(-9, 9), 0);
        told(gap, 9, 2, 9, 1);

        words(25, "-2: REGION 0 has no WHOLE POINT");
        for (String text : new String[] {THIN, FLAT, SMALL, HALVES, NO_POINT}) {
            due(text, with(text).gains(1, 1), -2);
        }

        words(25, "NONE: a, b others");
        int[][] none = {{10, 0}, {-10, 0}, {0, 10}, {0, -10}, {LEAST, 0}, {GREATEST, 0}, {0, LEAST}, {0, GREATEST}};
        for (int[] n : none) {
            refused("gains(" + n[0] + ", " + n[1] + ")", box.gains(n[0], n[1]));
            refused("without POINTS", with(NO_POINT).gains(n[0], n[1]));
        }
    }

    private static void loses() {
        words(26, "How many WHOLE POINTS of REGION 0 would not be there with one ROW more (as adds(); six may be there already)");
        SplitSlices six = with("+1x+0y<4;+1x+0y<4;+1x+0y<4;+1x+0y<4;+1x+0y<4;+1x+0y<4");
        due("on the row is there", six.loses(0, 1, 5), 5);
        told(six, 30);
        due("all", six.loses(0, 1, -1), 35);
        told(six, 0);
        due("none", six.loses(5, 5, 50), 0);
        told(six, 35);
        due("-5, -5, -50", six.loses(-5, -5, -50), 34);
        told(six, 1);
        due("six stay", six.count(0), 6);
        SplitSlices none = with(NO_POINT);
        due("of none", none.loses(1, 1, 1), 0);
        told(none, 0);
        due("without rows", new SplitSlices().loses(1, 0, 0), 42);

        words(26, "NONE: a, b, c can't be");
        int[][] cant = {{6, 0, 0}, {-6, 0, 0}, {0, 6, 0}, {0, -6, 0}, {0, 0, 0}, {0, 0, 50}, {1, 1, 51}, {1, 1, -51},
            {LEAST, 1, 1}, {1, GREATEST, 1}, {1, 1, LEAST}};
        for (int[] c : cant) {
            refused("loses(" + c[0] + ", " + c[1] + ", " + c[2] + ")", six.loses(c[0], c[1], c[2]));
            refused("without POINTS", none.loses(c[0], c[1], c[2]));
        }
        told(none, 0);
    }

    private static void tightest() {
        words(27, "The ROW k (told) without which there would be the most WHOLE POINTS (of equal ones the first): k; the ROW: how many");
        SplitSlices one = with("+1x+0y<0");
        due("one", one.tightest(), 0);
        told(one, 49);
        SplitSlices equal = with("+1x+0y<4;+0x+1y<4;+1x+0y<4");
        // without ROW 0 or 2 nothing changes, without ROW 1 there are 35
        due("the middle one", equal.tightest(), 1);
        told(equal, 35);
        due("equal ones", equal.drops(1) == 2 && equal.tightest() == 0, true);
        told(equal, 35);
        SplitSlices six = with("+1x+0y<5;+0x+1y<5;+1x+0y<6;+0x+1y<6;+1x+1y<50;+1x+1y<0");
        due("the last of six", six.tightest(), 5);
        told(six, 36);
        SplitSlices never = with("+1x+0y<-1;+0x+1y<-1");
        due("there would be none", never.tightest(), 0);
        told(never, 0);
        SplitSlices second = with("+1x+0y<3;+0x+1y<-1");
        due("all but one would be none", second.tightest(), 1);
        told(second, 28);

        words(27, "-2: none was told");
        due("none", new SplitSlices().tightest(), -2);
        SplitSlices dropped = with("+1x+1y<3");
        dropped.drops(0);
        due("none any more", dropped.tightest(), -2);
    }
}
