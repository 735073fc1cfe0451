/** Promises 15 to 20, sentence by sentence: cuts at their edges. Worked out by hand. */
public final class CutsEdgeTests extends Check {
    private static final int LEAST = Integer.MIN_VALUE;
    private static final int GREATEST = Integer.MAX_VALUE;
    private static final int[][] NOT_CUTS = {{2, 0, 0}, {-1, 0, 0}, {LEAST, 0, 0}, {GREATEST, 0, 0}, {0, 2, 0}, {0, -1, 0},
        {0, LEAST, 0}, {0, GREATEST, 0}, {0, 0, 6}, {0, 0, -1}, {0, 0, LEAST}, {0, 0, GREATEST}, {1, 1, 6}, {2, 2, 6}};

    public static void main(String[] args) {
        cut();
        stores();
        checks();
        stronger();
        clears();
        breaks();
        close("edges of cuts");
    }

    private static void cut() {
        words(15, "The CUT of a way, a SIDE and k: 1; the ROW: a, b, c, i, j, u, s, v, t (of these two numbers each: thirteen in all)");
        SplitSlices box = new SplitSlices();
        due("the first", box.cut(0, 0, 0), 1);
        told(box, 0, 1, 6, 3, 3, 1, 1, 0, 1, 1, 1, 0, 1);
        due("the last", box.cut(1, 1, 5), 1);
        told(box, -1, 0, 0, 0, 0, 1, 1, 0, 1, 1, 1, 0, 1);
        SplitSlices s = with("-2x+3y<4;+4x+5y<40");
        due("no whole multipliers", s.cut(0, 0, 4), 1);
        told(s, 0, 1, 4, 0, 1, 1, 3, 2, 3, 1, 5, 4, 5);

        words(15, "-2: a SLICE is empty");
        due("y at most 4", s.cut(1, 0, 3), 1);
        due("the second one is", s.cut(1, 0, 4), -2);
        due("both are", s.cut(1, 0, 5), -2);
        SplitSlices right = with("-1x+0y<-1");
        due("the first one is", right.cut(0, 0, 0), -2);
        due("neither is", right.cut(0, 0, 1), 1);

        words(15, "NONE: others");
        for (int[] n : NOT_CUTS) {
            refused("cut(" + n[0] + ", " + n[1] + ", " + n[2] + ")", s.cut(n[0], n[1], n[2]));
        }
    }

    private static void stores() {
        words(16, "That CUT is stored, with its PROOF: how many are stored");
        SplitSlices s = with("-2x+3y<4;+4x+5y<40");
        for (int i = 1; i <= 8; i++) {
            due("stores", s.stores(0, i % 2, 4), i);
            due("its PROOF CHECKS", s.checks(i - 1), 1);
        }
        due("each is kept, eight at most", s.count(3), 8);

        words(16, "-3: 8 are");
        due("a ninth", s.stores(0, 0, 4), -3);
        due("as many as there were", s.count(1), 8);
        due("undo() undoes the eighth", s.undo() == 7 && s.count(1) == 7, true);
        due("room again", s.stores(0, 0, 4), 8);

        words(16, "-2: a SLICE is empty");
        due("ahead of -3", s.stores(1, 0, 4), -2);
        SplitSlices other = with("+1x+0y<2");
        due("the second one is", other.stores(0, 0, 2), -2);
        due("neither is", other.stores(0, 0, 1), 1);
        due("the refused one is not kept", other.count(3), 2);
        due("nor stored", other.count(1), 1);

        words(16, "NONE: others");
        for (int[] n : NOT_CUTS) {
            refused("stores(" + n[0] + ", " + n[1] + ", " + n[2] + ")", s.stores(n[0], n[1], n[2]));
            refused("stores(" + n[0] + ", " + n[1] + ", " + n[2] + ")", other.stores(n[0], n[1], n[2]));
        }
        due("as many as there were", other.count(1), 1);
    }

    private static void checks() {
        words(17, "1 if the PROOF of stored CUT i CHECKS, by the ROWS as they are now, else 0; the ROW: a, b, c of the CUT");
        SplitSlices s = with("+2x+2y<3;+1x+0y<6");
        s.stores(0, 0, 0);
        s.stores(0, 1, 0);
        due("1", s.checks(0), 1);
        told(s, 2, 2, 3);
        s.becomes(0, 4);
        due("0, too, tells a, b, c", s.checks(0), 0);
        told(s, 2, 2, 3);
        due("the other one", s.checks(1), 1);
        told(s, 0, -1, 0);
        s.sheet(2, 1, 3, 0);
        due("a sheet changes ROWS, too", s.checks(0), 1);
        s.undo();
        due("so does undo()", s.count(0) == 2 && s.checks(0) == 1 && s.row(0, 2) == 3, true);
        due("no ROWS", rows(s, ""), 0);
        due("neither ROW is there", s.checks(1), 0);

        SplitSlices half = with("+2x+4y<8;+4x+2y<50");
        half.stores(0, 0, 0);
        due("u is 1 by 2, s 0 by 1", half.checks(0), 1);
        told(half, 1, 2, 4);
        half.becomes(0, 9);
        due("a bit wider", half.checks(0), 0);

        words(17, "NONE: no such");
        for (int i : new int[] {2, 7, 8, -1, LEAST, GREATEST}) {
            refused("checks(" + i + ")", s.checks(i));
        }
        refused("none stored", new SplitSlices().checks(0));
        s.clears();
        refused("none stored any more", s.checks(0));
    }

    private static void stronger() {
        words(18, "a and b divided by the greatest number that goes into both, c by it, rounded down: that c");
        SplitSlices s = with("+2x+2y<3;+0x+2y<5");
        s.stores(0, 0, 0);
        due("3 by 2", s.stronger(0), 1);
        told(s, 1, 1, 1, 0);
        SplitSlices below = with("-4x-4y<-11");
        below.stores(0, 1, 0);
        due("-11 by 4", below.stronger(0), -3);
        told(below, -1, -1, 1, 0);
        SplitSlices level = with("+0x+2y<5");
        level.stores(0, 0, 0);
        due("a 0", level.stronger(0), 2);
        told(level, 0, 1, 1, 0);
        SplitSlices upright = with("-2x+0y<-3");
        upright.stores(1, 1, 0);
        due("b 0, all below 0", upright.stronger(0), -2);
        told(upright, -1, 0, 1, 0);

        words(18, "1 if that cuts off more than the CUT (c by that number was not whole), else 0");
        SplitSlices whole = with("+2x+4y<9;+1x+3y<6");
        whole.stores(0, 0, 1);
        // HIGHS at 1 and 2 are 5/3 and 5/4: 5 x + 12 y at most 25
        due("no number above 1 goes into both", whole.stronger(0), 25);
        told(whole, 5, 12, 0, 0);
        whole.stores(0, 1, 0);
        due("c 0", whole.stronger(1), 0);
        told(whole, 0, -1, 0, 0);

        words(18, "how many WHOLE POINTS of REGION 0 do not hold it");
        due("none", level.stronger(0), 2);
        told(level, 0, 1, 1, 0);
        level.becomes(0, 6);
        due("y = 3", level.stronger(0), 2);
        told(level, 0, 1, 1, 7);
        level.becomes(0, 50);
        due("y = 3 .. 6", level.stronger(0), 2);
        told(level, 0, 1, 1, 28);
        level.becomes(0, -1);
        due("no POINTS", level.stronger(0), 2);
        told(level, 0, 1, 1, 0);
        level.becomes(0, 5);
        due("the CUT itself stays", level.checks(0), 1);
        told(level, 0, 2, 5);

        words(18, "NONE: no such");
        for (int i : new int[] {1, 8, -1, LEAST, GREATEST}) {
            refused("stronger(" + i + ")", level.stronger(i));
        }
        refused("none stored", new SplitSlices().stronger(0));
    }

    private static void clears() {
        words(19, "All stored CUTS go: how many there were");
        SplitSlices s = new SplitSlices();
        due("none", s.clears(), 0);
        due("that can be undone, too", s.count(3), 1);
        for (int i = 1; i <= 8; i++) {
            s.stores(0, 0, 0);
        }
        due("8", s.clears(), 8);
        due("none is left", s.count(1), 0);
        due("none now", s.clears(), 0);
        due("room again", s.stores(0, 0, 0), 1);
        due("1", s.clears(), 1);
        due("one of them is undone", s.undo() >= 0 && s.count(1) == 1, true);
    }

    private static void breaks() {
        words(20, "the first one of which a x + b y less c is greatest (not divided by anything): its number");
        SplitSlices s = with("+0x+1y<1");
        s.stores(0, 0, 0);
        due("other rows", rows(s, "+5x+5y<12"), 1);
        s.stores(0, 0, 0);
        s.stores(0, 0, 0);
        // y less 1, and twice 5 x + 5 y less 12
        due("2 against 3", s.breaks(0, 3, 1), 1);
        told(s, 3, 1);
        due("3 by 2 against 1 by 2", s.breaks(0, 5, 2), 0);
        told(s, 3, 2);
        due("equal ones", s.breaks(0, 11, 4), 0);
        told(s, 7, 4);
        due("a bit more", s.breaks(0, 34, 12), 1);
        told(s, 13, 6);

        words(20, "that (two numbers; below 0, too)");
        due("-1 against -12", s.breaks(0, 0, 1), 0);
        told(s, -1, 1);
        due("-1 by 12", s.breaks(0, 11, 12), 0);
        told(s, -1, 12);
        due("0", s.breaks(0, 12, 12), 0);
        told(s, 0, 1);
        due("the farthest POINT", s.breaks(72, 72, 12), 1);
        told(s, 48, 1);

        words(20, "-2: none is stored");
        due("none yet", new SplitSlices().breaks(0, 0, 1), -2);
        SplitSlices cleared = with("+2x+2y<3");
        cleared.stores(0, 0, 0);
        due("one", cleared.breaks(0, 0, 1), 0);
        cleared.clears();
        due("none any more", cleared.breaks(0, 0, 1), -2);
        told(cleared, -3, 1);

        words(20, "NONE: as inside()");
        notPoints((x, y, d) -> s.breaks(x, y, d));
        notPoints((x, y, d) -> cleared.breaks(x, y, d));
    }
}
