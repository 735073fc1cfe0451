/** Promises 1 to 9, sentence by sentence: texts and rows at their edges. Worked out by hand. */
public final class RowsEdgeTests extends Check {
    private static final int LEAST = Integer.MIN_VALUE;
    private static final int GREATEST = Integer.MAX_VALUE;
    private static final String SIX = "+1x+1y<9;+1x+1y<8;+1x+1y<7;+1x+1y<6;+1x+1y<5;+1x+1y<4";

    public static void main(String[] args) {
        newObject();
        sign();
        end();
        rowsAsText();
        rowsRefusedBySign();
        rowsRefusedByNumbers();
        row();
        sheetEntries();
        sheetRefused();
        becomes();
        adds();
        drops();
        close("edges of texts and rows");
    }

    private static void newObject() {
        words(1, "No ROWS but the four");
        SplitSlices s = new SplitSlices();
        rowsAre(s);
        due("the first of the four", s.row(0, 0), -1);
        due("the last of the four", s.row(3, 2), 6);
        due("no fifth", rowThrows(s, 4, 0), true);
        due("nothing stored", s.count(1), 0);
        due("nothing to undo", s.count(3), 0);
        due("no numbers", s.count(4), 0);
        due("no signs", s.count(5), 0);
        due("nothing kept", s.again(0) || s.again(1), false);
        SplitSlices changed = with("+1x+1y<3");
        due("an object has its own", changed.count(0) == 1 && new SplitSlices().count(0) == 0, true);
    }

    private static void sign() {
        words(2, "Four signs come behind THE TEXT, of v the highest byte first: how many it has");
        SplitSlices s = new SplitSlices();
        due("the first four", s.sign('+' << 24 | '1' << 16 | 'x' << 8 | '-'), 4);
        due("behind them", s.sign('2' << 24 | 'y' << 16 | '<' << 8 | '7'), 8);
        due("in their order", s.rows(), 1);
        rowsAre(s, 1, -2, 7);
        due("signs 0", s.sign(0), 4);
        due("count", s.sign(-1), 8);
        due("signs above 127 are signs", s.count(5), 8);
        due("as are signs 0, none of which can stand there", s.rows(), -1);
        due("a byte above 127", s.sign(('c' | 128) << 24), 4);
        due("is not the sign below 128", s.day(), -1);

        words(2, "Refused: there would be more than 80");
        SplitSlices full = new SplitSlices();
        for (int i = 1; i <= 20; i++) {
            due("up to 80", full.sign('c' << 24 | 'c' << 16 | 'c' << 8 | 'c'), 4 * i);
        }
        for (int length = 80; length >= 77; length--) {
            due("end", full.end(length), true);
            refused("behind " + length, full.sign(0));
            due("as many as there were", full.count(5), length);
        }
        due("end", full.end(76), true);
        due("just 80", full.sign('c' << 24 | 'c' << 16 | 'c' << 8 | 'c'), 80);
        due("the refused ones are not among them", full.day(), 80);
    }

    private static void end() {
        words(3, "THE TEXT has its first n signs alone: true");
        SplitSlices s = new SplitSlices();
        type(s, "ccc!");
        due("all", s.end(4), true);
        due("all but one", s.end(3), true);
        due("signs", s.count(5), 3);
        due("those behind come behind these", s.sign('d' << 24 | '0' << 16 | 'c' << 8 | 'c'), 7);
        due("the first ones", s.day(), 3);
        type(s, "ccc!");
        due("none of them", s.end(0), true);
        due("signs", s.count(5), 0);
        due("0 of an empty one", s.end(0), true);

        words(3, "false if it has not so many, or n is below 0");
        due("1 of an empty one", s.end(1), false);
        type(s, "cccc");
        due("5 of 4", s.end(5), false);
        due("81", s.end(81), false);
        due("the greatest", s.end(GREATEST), false);
        due("-1", s.end(-1), false);
        due("the least", s.end(LEAST), false);
        due("nothing changes", s.count(5), 4);
        due("what was cut off is not there again", s.end(2) && !s.end(4), true);
    }

    private static void rowsAsText() {
        words(4, "THE TEXT is the ROWS, with ; between (an empty one: none)");
        SplitSlices s = with("+1x+1y<3");
        due("empty", s.rows(), 0);
        rowsAre(s);
        due("it can be undone", s.undo(), 1);
        rowsAre(s, 1, 1, 3);
        due("one", rows(s, "+2x+1y<3"), 1);
        due("six", rows(s, SIX), 6);
        rowsAre(s, 1, 1, 9, 1, 1, 8, 1, 1, 7, 1, 1, 6, 1, 1, 5, 1, 1, 4);
        due("fewer than there were", rows(s, "+0x+1y<1;-3x-0y<2"), 2);
        rowsAre(s, 0, 1, 1, -3, 0, 2);

        words(4, "+ or -, a digit 0 .. 5, x, + or -, a digit 0 .. 5, y, <");
        due("the least and the greatest", rows(s, "+5x-5y<1;-0x+1y<1;+1x-0y<1;-5x+5y<1"), 4);
        rowsAre(s, 5, -5, 1, 0, 1, 1, 1, 0, 1, -5, 5, 1);

        words(4, "then, if wanted, -, then a number of one or two digits (as many as stand there)");
        due("all forms", rows(s, "+1x+1y<0;+1x+1y<9;+1x+1y<00;+1x+1y<-0;+1x+1y<-9;+1x+1y<-00"), 6);
        rowsAre(s, 1, 1, 0, 1, 1, 9, 1, 1, 0, 1, 1, 0, 1, 1, -9, 1, 1, 0);
        due("a 0 ahead", rows(s, "+1x+1y<07;+1x+1y<-07;+1x+1y<50;+1x+1y<-50"), 4);
        rowsAre(s, 1, 1, 7, 1, 1, -7, 1, 1, 50, 1, 1, -50);
        due("the longest text", rows(s, "+1x+1y<-10;".repeat(5) + "+1x+1y<-10"), 6);
        due("a third digit", rows(s, "+1x+1y<050"), -1 - 9);
        due("a third digit", rows(s, "+1x+1y<-050"), -1 - 10);
    }

    private static void rowsRefusedBySign() {
        words(4, "-1 - p: the sign at p can't stand there");
        SplitSlices s = with("+1x+1y<3");
        String good = "+1x-2y<-34;-5x+0y<7";
        String[] wrong = {"0,*/x", "/6:-x", "y+1X", "0,*/y", "/6:-y", "x+1Y", "=>-1", "+/:x", "/:;-", "/:;-"};
        for (int p = 0; p < wrong.length; p++) {
            for (char sign : wrong[p].toCharArray()) {
                if (p == 9 && sign == ';') {
                    continue;
                }
                String text = good.substring(0, p) + sign + good.substring(p + 1);
                due(text, rows(s, text), -1 - p);
            }
        }
        due("behind the number", rows(s, "+1x-2y<-34,-5x+0y<7"), -1 - 10);
        due("in the second", rows(s, "+1x-2y<-34;-5x+0z<7"), -1 - 16);
        due("behind the last", rows(s, good + "x"), -1 - 19);
        due("nothing between", rows(s, "+1x-2y<-34;;-5x+0y<7"), -1 - 11);
        due("nothing ahead", rows(s, ";" + good), -1);
        due("a sign above 127", rows(s, "+1x-2y<\u00b3"), -1 - 7);
        due("a sign 0", rows(s, "+1x-2y<3\0"), -1 - 8);

        words(4, "the ; ahead of a seventh ROW");
        due("a seventh", rows(s, SIX + ";+1x+1y<3"), -1 - 53);
        due("its ; alone", rows(s, SIX + ";"), -1 - 53);
        due("a wrong seventh", rows(s, SIX + ";?"), -1 - 53);
        due("with 80 signs", rows(s, SIX + ";+1x+1y<3;+1x+1y<-10;+1x+1"), -1 - 53);

        words(4, "its end, if it ends too early");
        for (int length = 1; length < good.length(); length++) {
            boolean whole = length == 9 || length == 10;
            if (!whole) {
                due("the first " + length, rows(s, good.substring(0, length)), -1 - length);
            }
        }
        due("a ; behind the last", rows(s, good + ";"), -1 - 20);
        rowsAre(s, 1, 1, 3);
        due("nothing is kept of these", s.count(3), 1);
    }

    private static void rowsRefusedByNumbers() {
        words(4, "-100 - k: ROW k (the first such) has a and b 0, or c above 50 or below -50");
        SplitSlices s = with("+1x+1y<3");
        due("a and b 0", rows(s, "+0x+0y<1"), -100);
        due("a and b -0", rows(s, "-0x-0y<1"), -100);
        due("51", rows(s, "+1x+1y<51"), -100);
        due("-51", rows(s, "+1x+1y<-51"), -100);
        due("99", rows(s, "+1x+1y<99"), -100);
        due("-99", rows(s, "+1x+1y<-99"), -100);
        due("the last of six", rows(s, SIX.substring(0, 45) + "+0x+0y<0"), -105);
        due("the first such", rows(s, "+1x+1y<1;+1x+1y<51;+0x+0y<1;+1x+1y<-51"), -101);
        due("the first such", rows(s, "+1x+1y<1;+0x+0y<1;+1x+1y<51"), -101);
        due("50 and -50 can be", rows(s, "+1x+1y<50;+1x+1y<-50"), 2);

        words(4, "asked behind the signs");
        due("a wrong sign behind it", rows(s, "+0x+0y<1;+1x+1y<1?"), -1 - 17);
        due("its end", rows(s, "+1x+1y<51;"), -1 - 10);
        due("a seventh", rows(s, "+0x+0y<9" + SIX.substring(8) + ";"), -1 - 53);
        rowsAre(s, 1, 1, 50, 1, 1, -50);
        due("nothing is kept of these", s.count(3), 2);
    }

    private static void row() {
        words(5, "NoSuchElementException: none such, another what");
        SplitSlices s = with("+1x-2y<4;-3x+5y<-7");
        due("the last one told", s.row(1, 2), -7);
        due("the first behind", s.row(2, 0), -1);
        due("the last one", s.row(5, 1), 1);
        int[][] none = {{6, 0}, {-1, 0}, {LEAST, 0}, {GREATEST, 0}, {0, 3}, {0, -1}, {0, LEAST}, {0, GREATEST}, {6, 3}, {5, 3}};
        for (int[] n : none) {
            due("row(" + n[0] + ", " + n[1] + ") throws", rowThrows(s, n[0], n[1]), true);
        }
        due("it goes on", s.row(0, 1), -2);
    }

    /** c of each told ROW after a sheet. */
    private static void sheet(int[] arguments, int... bounds) {
        SplitSlices s = new SplitSlices();
        for (int i = 0; i < bounds.length; i++) {
            s.adds(1, 1, -49);
        }
        due("sheet", s.sheet(arguments[0], arguments[1], arguments[2], arguments[3]), bounds.length);
        for (int k = 0; k < bounds.length; k++) {
            due("c of " + k, s.row(k, 2), bounds[k]);
            due("a of " + k, s.row(k, 0), 1);
        }
    }

    private static void sheetEntries() {
        words(6, "bytes (kind 0), shorts (1), ints (2) of n entries f, f + step, .. (as ints");
        sheet(new int[] {2, 6, 1, 3}, 1, 4, 7, 10, 13, 16);
        sheet(new int[] {2, 3, 9, 0}, 9, 9, 9);
        sheet(new int[] {2, 3, 9, -4}, 9, 5, 1);
        sheet(new int[] {2, 3, GREATEST, 1}, 25, 25, 26);
        sheet(new int[] {2, 3, LEAST, -1}, 25, 25, 24);
        sheet(new int[] {2, 4, 0, LEAST}, 0, 25, 0, 25);
        sheet(new int[] {2, 4, 5, GREATEST}, 5, 29, 3, 27);

        words(6, "of bytes, shorts the lowest bits, with their sign");
        sheet(new int[] {0, 3, 126, 1}, 24, 25, 25);
        sheet(new int[] {0, 3, 254, 1}, 49, 50, 0);
        sheet(new int[] {0, 2, -129, 1}, 25, 25);
        sheet(new int[] {0, 1, 0x7fffff80, 0}, 25);
        sheet(new int[] {1, 3, 32766, 1}, 24, 25, 25);
        sheet(new int[] {1, 3, 65534, 1}, 49, 50, 0);
        sheet(new int[] {1, 2, -32769, 1}, 25, 25);
        sheet(new int[] {1, 1, 128, 0}, 26);
        sheet(new int[] {2, 1, 32768, 0}, 26);

        words(6, "modulo 51 (0 at least)");
        sheet(new int[] {2, 6, 49, 1}, 49, 50, 0, 1, 2, 3);
        sheet(new int[] {2, 6, 1, -1}, 1, 0, 50, 49, 48, 47);
        sheet(new int[] {2, 3, -50, -1}, 1, 0, 50);
        sheet(new int[] {0, 2, -51, -51}, 0, 0);

        words(6, "those behind the last become 0: how many were told");
        sheet(new int[] {2, 2, 7, 1}, 7, 8, 0, 0);
        sheet(new int[] {2, 0, 7, 1}, 0, 0, 0);
        sheet(new int[] {2, 6, 7, 1}, 7, 8);
        sheet(new int[] {0, 6, 7, 1});
        sheet(new int[] {1, 0, 7, 1});
    }

    private static void sheetRefused() {
        words(6, "Nothing is kept of it that could be undone");
        SplitSlices s = with("+1x+0y<1;+0x+1y<2");
        due("sheet", s.sheet(2, 2, 9, 9), 2);
        due("rows() alone", s.count(3), 1);
        due("becomes", s.becomes(0, 4), 109);
        due("sheet", s.sheet(2, 2, 20, 1), 2);
        due("ROWS are as ahead of becomes()", s.undo(), 1);
        rowsAre(s, 1, 0, 9, 0, 1, 18);
        SplitSlices alone = new SplitSlices();
        due("sheet", alone.sheet(2, 2, 9, 9), 0);
        refused("nothing to undo", alone.undo());

        words(6, "-2: n below 0 (of kinds 0 .. 2; nothing changes)");
        for (int kind = 0; kind <= 2; kind++) {
            due("-1", s.sheet(kind, -1, 7, 7), -2);
            due("the least", s.sheet(kind, LEAST, 7, 7), -2);
        }
        rowsAre(s, 1, 0, 9, 0, 1, 18);

        words(6, "NONE: another kind, n above 6 (these first)");
        int[][] none = {{4, 1}, {-1, 1}, {LEAST, 1}, {GREATEST, 1}, {0, 7}, {1, 7}, {2, 7}, {2, GREATEST}, {3, 7},
            {3, GREATEST}, {4, -1}, {-1, -1}, {4, 7}};
        for (int[] n : none) {
            refused("sheet(" + n[0] + ", " + n[1] + ", ..)", s.sheet(n[0], n[1], 7, 7));
        }
        rowsAre(s, 1, 0, 9, 0, 1, 18);
        due("6 can be", s.sheet(2, 6, 8, 1), 2);
        rowsAre(s, 1, 0, 8, 0, 1, 9);

        words(6, "-3: missing (all 0)");
        due("missing", s.sheet(3, 2, 7, 7), -3);
        rowsAre(s, 1, 0, 0, 0, 1, 0);
        for (int n : new int[] {0, 6, -1, LEAST}) {
            s.sheet(2, 2, 8, 1);
            due("missing, n " + n, s.sheet(3, n, 7, 7), -3);
            rowsAre(s, 1, 0, 0, 0, 1, 0);
        }
        due("missing, no ROWS", alone.sheet(3, 0, 0, 0), -3);
        due("nothing is kept of it", s.count(3), 1);
    }

    private static void becomes() {
        words(7, "c of ROW k (told) becomes c: 100 and what it was");
        SplitSlices s = with("+1x+0y<50;+0x+1y<-50;+1x+1y<0");
        due("was 50", s.becomes(0, -50), 150);
        due("was -50", s.becomes(1, 50), 50);
        due("was 0", s.becomes(2, 1), 100);
        rowsAre(s, 1, 0, -50, 0, 1, 50, 1, 1, 1);
        due("each is kept", s.count(3), 4);

        words(7, "-2: it is so");
        due("-50", s.becomes(0, -50), -2);
        due("50", s.becomes(1, 50), -2);
        due("not kept", s.count(3), 4);

        words(7, "NONE: others");
        int[][] none = {{3, 1}, {6, 1}, {-1, 1}, {LEAST, 1}, {GREATEST, 1}, {0, 51}, {0, -51}, {0, LEAST}, {0, GREATEST}};
        for (int[] n : none) {
            refused("becomes(" + n[0] + ", " + n[1] + ")", s.becomes(n[0], n[1]));
        }
        refused("none told", new SplitSlices().becomes(0, 1));
        rowsAre(s, 1, 0, -50, 0, 1, 50, 1, 1, 1);
        due("not kept", s.count(3), 4);
    }

    private static void adds() {
        words(8, "A ROW comes behind those that were told: how many were told then");
        SplitSlices s = new SplitSlices();
        for (int k = 1; k <= 6; k++) {
            due("adds", s.adds(-5, k - 1, 10 * k - 50), k);
            due("it is the last one told", s.row(k - 1, 2), 10 * k - 50);
            due("the four come behind", s.row(k, 0), -1);
        }

        words(8, "-2: there are 6");
        due("a seventh", s.adds(1, 1, 1), -2);
        due("not kept", s.count(3), 6);
        rowsAre(s, -5, 0, -40, -5, 1, -30, -5, 2, -20, -5, 3, -10, -5, 4, 0, -5, 5, 10);

        words(8, "NONE: a, b, c can't be");
        SplitSlices other = with("+1x+1y<3");
        int[][] cant = {{6, 0, 0}, {-6, 0, 0}, {0, 6, 0}, {0, -6, 0}, {0, 0, 0}, {1, 1, 51}, {1, 1, -51}, {LEAST, 0, 0}};
        for (int[] c : cant) {
            refused("with room", other.adds(c[0], c[1], c[2]));
            refused("ahead of -2", s.adds(c[0], c[1], c[2]));
        }
        rowsAre(other, 1, 1, 3);
        due("not kept", other.count(3), 1);
    }

    private static void drops() {
        words(9, "ROW k (told) goes, those behind it have numbers 1 less: how many were told then");
        SplitSlices s = with("+1x+0y<1;+2x+0y<2;+3x+0y<3;+4x+0y<4");
        due("in the middle", s.drops(1), 3);
        rowsAre(s, 1, 0, 1, 3, 0, 3, 4, 0, 4);
        due("the first", s.drops(0), 2);
        rowsAre(s, 3, 0, 3, 4, 0, 4);
        due("the last", s.drops(1), 1);
        rowsAre(s, 3, 0, 3);
        due("the four, too", s.row(1, 0), -1);
        due("the only one", s.drops(0), 0);
        rowsAre(s);
        due("the four alone", s.row(0, 0), -1);

        words(9, "NONE: others");
        refused("none told", s.drops(0));
        SplitSlices two = with("+1x+0y<1;+2x+0y<2");
        for (int k : new int[] {2, 5, 6, -1, LEAST, GREATEST}) {
            refused("drops(" + k + ")", two.drops(k));
        }
        rowsAre(two, 1, 0, 1, 2, 0, 2);
        due("not kept", two.count(3), 1);
    }
}
