/** Each promise by itself: ordinary inputs, the edges that the document names, wrong inputs. Worked out by hand. */
public final class PromiseTests extends Check {
    public static void main(String[] args) {
        texts();
        rowsByHand();
        regions();
        cuts();
        wholePoints();
        sums();
        days();
        kept();
        close("promises");
    }

    // ---- 1 to 5

    private static void texts() {
        about("promise 1");
        SplitSlices s = new SplitSlices();
        int[] box = {-1, 0, 0, 1, 0, 6, 0, -1, 0, 0, 1, 6};
        for (int i = 0; i < box.length; i++) {
            due("row " + i, s.row(i / 3, i % 3), box[i]);
        }
        for (int what = 0; what <= 6; what++) {
            due("count " + what, s.count(what), 0);
        }
        due("again", s.again(0), false);

        about("promise 2");
        s = new SplitSlices();
        due("sign", s.sign('+' << 24 | '1' << 16 | 'x' << 8 | 'y'), 4);
        due("rows", s.rows(), -4);
        due("sign above 127", s.sign(0xffffffff), 4);
        for (int i = 2; i <= 20; i++) {
            due("sign", s.sign(0), 4 * i);
        }
        due("21st", s.sign(0), SplitSlices.NONE);
        due("all stay", s.count(5), 80);
        due("end", s.end(77), true);
        due("81", s.sign(0), SplitSlices.NONE);
        due("end", s.end(76), true);
        due("80", s.sign(0), 80);

        about("promise 3");
        s = new SplitSlices();
        due("none", s.end(0), true);
        due("1 of none", s.end(1), false);
        s.sign('c' << 24 | 'c' << 16 | 'x' << 8 | 'x');
        due("5 of 4", s.end(5), false);
        due("-1", s.end(-1), false);
        due("least", s.end(Integer.MIN_VALUE), false);
        due("stays", s.count(5), 4);
        due("all", s.end(4), true);
        due("first 2", s.end(2), true);
        due("signs", s.count(5), 2);
        due("the first ones", s.day(), 2);

        about("promise 4");
        s = new SplitSlices();
        due("two", rows(s, "+1x-2y<4;-0x+5y<-13"), 2);
        rowsAre(s, 1, -2, 4, 0, 5, -13);
        due("read", s.count(5), 0);
        due("empty", rows(s, ""), 0);
        rowsAre(s);
        due("04, -0", rows(s, "+1x+0y<04;+1x+0y<-0"), 2);
        rowsAre(s, 1, 0, 4, 1, 0, 0);
        String six = "+1x+1y<9;+1x+1y<8;+1x+1y<7;+1x+1y<6;+1x+1y<5;+1x+1y<4";
        due("six", rows(s, six), 6);
        due("a seventh", rows(s, six + ";+1x+1y<3"), -1 - 53);
        due("its ;", rows(s, six + ";"), -1 - 53);
        due("another sign", rows(s, six + "x"), -1 - 53);
        due("six stay", s.count(0), 6);
        String[] texts = {"1", "*", "+", "+6", "+-", "+1y", "+1x1", "+1x+6", "+1x+1x", "+1x+1y>", "+1x+1y<", "+1x+1y<+1",
            "+1x+1y<-", "+1x+1y<--1", "+1x+1y<123", "+1x+1y<1:", "+1x+1y<12;", "+1x+1y<1;;", "+1x+1y<1 ", ";"};
        int[] places = {0, 0, 1, 1, 1, 2, 3, 4, 5, 6, 7, 7, 8, 8, 9, 8, 10, 9, 8, 0};
        for (int i = 0; i < texts.length; i++) {
            due(texts[i], rows(s, texts[i]), -1 - places[i]);
            due("read", s.count(5), 0);
        }
        due("50, -50", rows(s, "+1x+1y<50;+1x+1y<-50"), 2);
        due("51", rows(s, "+1x+1y<51"), -100);
        due("-51", rows(s, "+1x+1y<1;+1x+1y<-51"), -101);
        due("a and b 0", rows(s, "+1x+1y<1;+0x+1y<1;-0x+0y<1;+1x+1y<99"), -102);
        due("signs first", rows(s, "+0x+0y<1;+1x+1y<1x"), -1 - 17);
        rowsAre(s, 1, 1, 50, 1, 1, -50);

        about("promise 5");
        s = with("+1x-2y<4");
        rowsAre(s, 1, -2, 4);
        due("behind", s.row(1, 0), -1);
        due("last", s.row(4, 2), 6);
        due("x at most 6", s.row(2, 2), 6);
        int[][] others = {{5, 0}, {-1, 0}, {0, 3}, {0, -1}, {Integer.MAX_VALUE, 0}, {Integer.MIN_VALUE, 2}};
        for (int[] o : others) {
            due("throws", rowThrows(s, o[0], o[1]), true);
        }
    }

    // ---- 6 to 9

    private static void rowsByHand() {
        about("promise 6");
        SplitSlices s = with("+1x+0y<1;+0x+1y<2;+1x+1y<3");
        due("bytes", s.sheet(0, 3, 127, 1), 3);
        rowsAre(s, 1, 0, 25, 0, 1, 25, 1, 1, 26);
        due("shorts", s.sheet(1, 2, 32767, 2), 3);
        rowsAre(s, 1, 0, 25, 0, 1, 26, 1, 1, 0);
        due("ints", s.sheet(2, 6, Integer.MAX_VALUE, 1), 3);
        rowsAre(s, 1, 0, 25, 0, 1, 25, 1, 1, 26);
        due("steps back", s.sheet(0, 3, 1, -1), 3);
        rowsAre(s, 1, 0, 1, 0, 1, 0, 1, 1, 50);
        due("n below 0", s.sheet(1, -1, 7, 7), -2);
        due("another kind", s.sheet(4, 1, 7, 7), SplitSlices.NONE);
        due("another kind first", s.sheet(-1, -1, 7, 7), SplitSlices.NONE);
        due("7", s.sheet(2, 7, 7, 7), SplitSlices.NONE);
        due("7 of a missing one", s.sheet(3, 7, 7, 7), SplitSlices.NONE);
        rowsAre(s, 1, 0, 1, 0, 1, 0, 1, 1, 50);
        due("missing", s.sheet(3, -5, 7, 7), -3);
        rowsAre(s, 1, 0, 0, 0, 1, 0, 1, 1, 0);
        due("nothing kept", s.count(3), 1);
        due("none told", new SplitSlices().sheet(2, 3, 1, 1), 0);
        due("no entries", s.sheet(2, 0, 5, 5), 3);
        due("as ahead of rows()", s.undo(), 0);
        rowsAre(s);

        about("promise 7");
        s = with("+1x+0y<1;+0x+1y<-50");
        due("was 1", s.becomes(0, 50), 101);
        due("was -50", s.becomes(1, -49), 50);
        rowsAre(s, 1, 0, 50, 0, 1, -49);
        due("is so", s.becomes(0, 50), -2);
        int[][] no = {{2, 0}, {-1, 0}, {0, 51}, {0, -51}, {5, 0}, {0, Integer.MIN_VALUE}};
        for (int[] n : no) {
            due("others", s.becomes(n[0], n[1]), SplitSlices.NONE);
        }
        due("undone", s.count(3), 3);

        about("promise 8");
        s = new SplitSlices();
        due("first", s.adds(5, -5, 50), 1);
        due("second", s.adds(0, 1, -50), 2);
        rowsAre(s, 5, -5, 50, 0, 1, -50);
        int[][] cant = {{6, 0, 0}, {-6, 0, 0}, {0, 6, 0}, {0, -6, 0}, {0, 0, 1}, {1, 1, 51}, {1, 1, -51}};
        for (int[] c : cant) {
            due("can't be", s.adds(c[0], c[1], c[2]), SplitSlices.NONE);
        }
        for (int i = 3; i <= 6; i++) {
            due("more", s.adds(1, 1, i), i);
        }
        due("there are 6", s.adds(1, 1, 7), -2);
        due("NONE ahead", s.adds(0, 0, 7), SplitSlices.NONE);
        due("the four behind", s.row(6, 0), -1);

        about("promise 9");
        due("goes", s.drops(1), 5);
        rowsAre(s, 5, -5, 50, 1, 1, 3, 1, 1, 4, 1, 1, 5, 1, 1, 6);
        due("last", s.drops(4), 4);
        due("not told", s.drops(4), SplitSlices.NONE);
        due("below", s.drops(-1), SplitSlices.NONE);
        due("first", s.drops(0), 3);
        rowsAre(s, 1, 1, 3, 1, 1, 4, 1, 1, 5);
    }

    // ---- 10 to 14

    private static void regions() {
        about("promise 10");
        SplitSlices s = with("+1x+2y<5");
        due("x = 0", s.slice(0, 0, 0), 1);
        told(s, 0, 1, 5, 2);
        due("x = 5: one point", s.slice(0, 0, 5), 1);
        told(s, 0, 1, 0, 1);
        due("y = 2", s.slice(0, 1, 2), 1);
        told(s, 0, 1, 1, 1);
        due("x = 6 is empty", s.slice(0, 0, 6), 0);
        told(s, 0, 1, 1, 1);
        due("cut at x = 0", s.slice(1, 0, 0), 1);
        told(s, 0, 1, 2, 1);
        due("not cut at x = 2", s.slice(1, 0, 2), 1);
        told(s, 0, 1, 3, 2);
        SplitSlices two = with("+2x+2y<3");
        due("REGION 1", two.slice(1, 1, 1), 1);
        told(two, 0, 1, 1, 2);
        due("REGION 2", two.slice(2, 1, 1), 1);
        told(two, 0, 1, 0, 1);
        SplitSlices low = with("-3x-2y<-7");
        due("LOW", low.slice(0, 0, 2), 1);
        told(low, 1, 2, 6, 1);
        due("LOW of the rows behind", low.slice(0, 0, 3), 1);
        told(low, 0, 1, 6, 1);
        int[][] no = {{3, 0, 0}, {-1, 0, 0}, {0, 2, 0}, {0, -1, 0}, {0, 0, 7}, {0, 0, -1}};
        for (int[] n : no) {
            due("NONE", low.slice(n[0], n[1], n[2]), SplitSlices.NONE);
        }
        told(low, 0, 1, 6, 1);

        about("promise 11");
        due("on the row", s.inside(0, 0, 5, 2), 1);
        due("beyond", s.inside(0, 1, 5, 2), 0);
        due("9 by 4", s.inside(0, 0, 9, 4), 1);
        due("not in REGION 1", s.inside(1, 0, 9, 4), 0);
        due("in REGION 3", s.inside(3, 1, 24, 12), 1);
        due("between", s.inside(1, 1, 4, 2), 1);
        due("corner", new SplitSlices().inside(3, 72, 72, 12), 1);
        notPoints((x, y, d) -> s.inside(0, x, y, d));
        due("r 4", s.inside(4, 0, 0, 1), SplitSlices.NONE);
        due("r -1", s.inside(-1, 0, 0, 1), SplitSlices.NONE);
        due("thin, no slice", with("+2x+0y<1;-3x+0y<-1").inside(0, 5, 0, 12), 1);
        due("thin, no slice", with("+2x+0y<1;-3x+0y<-1").inside(1, 5, 0, 12), 0);

        about("promise 12");
        due("REGION 0", s.round(3, 3, 1), 0);
        due("REGION 1", s.round(0, 9, 4), 1);
        due("REGION 2", two.round(2, 1, 2), 2);
        due("all", s.round(0, 2, 1), -2);
        notPoints((x, y, d) -> s.round(x, y, d));
        due("REGION 3", with("+5x+5y<12").round(3, 4, 3), 3);

        about("promise 13");
        due("by way 1", s.splits(0, 0, 9, 4), 1);
        told(s, 0, 1);
        SplitSlices peak = with("-1x+1y<2;+1x+1y<7");
        due("by both", peak.splits(0, 10, 18, 4), 2);
        told(peak, 1, 1);
        due("by none", peak.splits(0, 0, 0, 1), 0);
        told(peak, 0, 0);
        due("by way 0", with("+2x+1y<5").splits(0, 9, 0, 4), 1);
        due("not in it", peak.splits(1, 10, 18, 4), -2);
        told(peak, 0, 0);
        notPoints((x, y, d) -> peak.splits(0, x, y, d));
        due("r 3", peak.splits(3, 0, 0, 1), SplitSlices.NONE);
        due("r -1", peak.splits(-1, 0, 0, 1), SplitSlices.NONE);

        about("promise 14");
        due("REGION 0", s.slices(0), 9);
        told(s, 6, 3, 5, 2);
        due("REGION 1", s.slices(1), 9);
        told(s, 6, 3, 2, 1);
        due("REGION 2", s.slices(2), 9);
        told(s, 6, 3);
        due("another", s.slices(3), SplitSlices.NONE);
        due("another", s.slices(-1), SplitSlices.NONE);
        told(s, 6, 3);
        SplitSlices none = with("+1x+0y<-1");
        due("none", none.slices(0), 0);
        told(none, 0, 0, 0, 1);
        due("of way 1 alone", with("+2x+0y<1;-3x+0y<-1").slices(0), 7);
    }

    // ---- 15 to 20

    private static void cuts() {
        about("promise 15");
        SplitSlices s = with("-2x+3y<4;+4x+5y<40");
        due("two rows", s.cut(0, 0, 4), 1);
        told(s, 0, 1, 4, 0, 1, 1, 3, 2, 3, 1, 5, 4, 5);
        due("one row", s.cut(0, 0, 2), 1);
        told(s, -2, 3, 4, 0, 0, 1, 1, 0, 1, 1, 1, 0, 1);
        due("LOW", s.cut(0, 1, 0), 1);
        told(s, 0, -1, 0, 4, 4, 1, 1, 0, 1, 1, 1, 0, 1);
        due("way 1, LOW", s.cut(1, 1, 1), 1);
        told(s, -1, 1, 1, 2, 0, 1, 1, 1, 1, 1, 2, 1, 2);
        due("an empty slice", s.cut(1, 1, 4), -2);
        told(s, -1, 1, 1, 2, 0, 1, 1, 1, 1, 1, 2, 1, 2);
        int[][] no = {{2, 0, 0}, {-1, 0, 0}, {0, 2, 0}, {0, -1, 0}, {0, 0, 6}, {0, 0, -1}};
        for (int[] n : no) {
            due("others", s.cut(n[0], n[1], n[2]), SplitSlices.NONE);
            due("others", s.stores(n[0], n[1], n[2]), SplitSlices.NONE);
        }
        due("the last k", new SplitSlices().cut(1, 0, 5), 1);
        SplitSlices twice = with("+2x+4y<8;+1x+2y<4");
        due("the first row", twice.cut(0, 0, 0), 1);
        told(twice, 1, 2, 4, 0, 0, 1, 2, 0, 1, 1, 2, 0, 1);

        about("promise 16");
        due("stored", s.stores(0, 0, 4), 1);
        due("an empty slice", s.stores(1, 1, 4), -2);
        for (int i = 2; i <= 8; i++) {
            due("stored", s.stores(0, 1, 0), i);
        }
        due("8 are", s.stores(0, 1, 0), -3);
        due("a slice is empty", s.stores(1, 1, 4), -2);
        due("NONE ahead", s.stores(0, 0, 6), SplitSlices.NONE);
        due("count", s.count(1), 8);
        due("kept", s.count(3), 8);

        about("promise 17");
        s = with("-2x+3y<4;+4x+5y<40");
        s.stores(0, 0, 4);
        due("checks", s.checks(0), 1);
        told(s, 0, 1, 4);
        s.becomes(1, 39);
        due("a row is tighter", s.checks(0), 1);
        s.becomes(1, 41);
        due("a row is wider", s.checks(0), 0);
        told(s, 0, 1, 4);
        s.becomes(1, 40);
        s.becomes(0, 5);
        due("the other is wider", s.checks(0), 0);
        s.becomes(0, 4);
        due("again", s.checks(0), 1);
        s.adds(1, 1, 5);
        due("a row behind", s.checks(0), 1);
        s.drops(0);
        due("numbers have changed", s.checks(0), 0);
        SplitSlices box = new SplitSlices();
        box.adds(1, 0, 5);
        box.stores(1, 0, 0);
        box.stores(0, 0, 0);
        due("row 4 is there", box.checks(1), 1);
        told(box, 0, 1, 6);
        box.drops(0);
        due("row 4 is not", box.checks(1), 0);
        due("nor as ROW 0 now", box.checks(0), 0);
        due("none such", s.checks(1), SplitSlices.NONE);
        due("none such", s.checks(-1), SplitSlices.NONE);

        about("promise 18");
        SplitSlices t = with("+2x+2y<3");
        t.stores(0, 0, 0);
        due("stronger", t.stronger(0), 1);
        told(t, 1, 1, 1, 0);
        due("the cut is as it was", t.checks(0), 1);
        told(t, 2, 2, 3);
        t.becomes(0, 6);
        due("points beyond", t.stronger(0), 1);
        told(t, 1, 1, 1, 7);
        SplitSlices below = with("-2x-2y<-3");
        below.stores(0, 1, 0);
        due("rounded down", below.stronger(0), -2);
        told(below, -1, -1, 1, 0);
        below.stores(0, 0, 0);
        due("no stronger", below.stronger(1), 6);
        told(below, 0, 1, 0, 0);
        due("none such", below.stronger(2), SplitSlices.NONE);
        due("none such", below.stronger(-1), SplitSlices.NONE);
        told(below, 0, 1, 0, 0);

        about("promise 19");
        due("two", below.clears(), 2);
        due("none", below.count(1), 0);
        due("none", below.clears(), 0);
        due("undone", below.undo() >= 0 && below.undo() >= 0 && below.count(1) == 2, true);

        about("promise 20");
        SplitSlices b = with("+2x+2y<3");
        due("none stored", b.breaks(0, 0, 1), -2);
        due("NONE ahead", b.breaks(0, 0, 0), SplitSlices.NONE);
        b.stores(0, 1, 0);
        b.stores(0, 0, 0);
        b.stores(0, 0, 0);
        due("the greatest", b.breaks(5, 5, 4), 1);
        told(b, 2, 1);
        due("below 0", b.breaks(1, 1, 3), 0);
        told(b, -1, 3);
        due("0", b.breaks(0, 0, 1), 0);
        told(b, 0, 1);
        notPoints((x, y, d) -> b.breaks(x, y, d));
        told(b, 0, 1);
    }

    // ---- 21 to 23

    private static void wholePoints() {
        about("promise 21");
        SplitSlices s = with("-1x+1y<2;+1x+1y<7;-1x-1y<-1");
        due("wholes", s.wholes(), 25);
        told(s, 0, 1, 6, 1);
        due("one", s.adds(1, 1, 1) > 0 && s.adds(1, 0, 0) > 0, true);
        due("one", s.wholes(), 1);
        told(s, 0, 1, 0, 1);
        s.adds(0, 1, 0);
        due("none", s.wholes(), 0);
        told(s);

        about("promise 22");
        SplitSlices h = with("-1x+1y<2;+1x+1y<7");
        due("hull", h.hull(), 6);
        told(h, 0, 0, 6, 0, 6, 1, 3, 4, 2, 4, 0, 2);
        SplitSlices line = with("+1x-1y<0;-1x+1y<0");
        due("line", line.hull(), 2);
        told(line, 0, 0, 6, 6);
        SplitSlices up = with("+1x+0y<0");
        due("line up", up.hull(), 2);
        told(up, 0, 0, 0, 6);
        SplitSlices one = with("+1x+1y<0");
        due("one", one.hull(), 1);
        told(one, 0, 0);
        one.adds(-1, 0, -1);
        due("none", one.hull(), 0);
        told(one);
        SplitSlices tri = with("+1x+1y<1");
        due("three", tri.hull(), 3);
        told(tri, 0, 0, 1, 0, 0, 1);

        about("promise 23");
        SplitSlices n = new SplitSlices();
        due("four", n.nearest(3, 3, 2), 4);
        told(n, 1, 1, 1, 2);
        due("two", n.nearest(3, 2, 2), 2);
        told(n, 1, 1, 1, 4);
        due("it", n.nearest(6, 5, 1), 1);
        told(n, 6, 5, 0, 1);
        due("a third", n.nearest(1, 2, 3), 1);
        told(n, 0, 1, 2, 9);
        SplitSlices far = with("+1x+1y<1;-1x-1y<-1");
        due("far", far.nearest(6, 6, 1), 2);
        told(far, 0, 1, 61, 1);
        far.adds(0, 1, -1);
        due("none", far.nearest(6, 6, 1), -2);
        told(far, 0, 1, 61, 1);
        notPoints((x, y, d) -> far.nearest(x, y, d));
        notPoints((x, y, d) -> n.nearest(x, y, d));
    }

    // ---- 24 to 27

    private static void sums() {
        about("promise 24");
        SplitSlices s = with("-1x+1y<2;+1x+1y<7");
        due("REGION 0", s.most(0, 2, 0), 0);
        told(s, 9, 1);
        due("a corner", s.most(-1, 9, 0), 0);
        told(s, 38, 1);
        due("by way 0", s.most(0, 2, 1), 0);
        told(s, 8, 1);
        due("by way 1", s.most(-1, 9, 2), 0);
        told(s, 34, 1);
        due("WHOLE", s.most(9, 9, 3), 0);
        told(s, 63, 1);
        due("-9", s.most(-9, -9, 0), 0);
        told(s, 0, 1);
        due("0", s.most(0, 0, 0), 0);
        told(s, 0, 1);
        SplitSlices half = with("+1x+2y<5");
        due("by way 0", half.most(0, 1, 1), 0);
        told(half, 5, 2);
        due("by way 1", half.most(0, 1, 2), 0);
        told(half, 2, 1);
        due("below 0", half.most(-1, -1, 0), 0);
        told(half, 0, 1);
        SplitSlices thin = with("+2x+0y<1;-3x+0y<-1");
        due("thin", thin.most(1, 0, 0), 0);
        told(thin, 1, 2);
        due("no slice", thin.most(1, 0, 1), -2);
        due("slices", thin.most(-1, 0, 2), 0);
        told(thin, -1, 3);
        due("no WHOLE POINT", thin.most(1, 0, 3), -2);
        due("no POINT", with("+1x+0y<-1").most(1, 0, 0), -2);
        int[][] no = {{10, 0, 0}, {-10, 0, 0}, {0, 10, 0}, {0, -10, 0}, {0, 0, 4}, {0, 0, -1}};
        for (int[] n : no) {
            due("others", thin.most(n[0], n[1], n[2]), SplitSlices.NONE);
        }
        told(thin, -1, 3);

        about("promise 25");
        due("way 1 gives more", half.gains(0, 1), 1);
        told(half, 1, 2, 1, 2);
        due("equal ones", s.gains(0, 1), 0);
        told(s, 1, 2, 1, 2);
        due("way 0 gives more", with("+2x+1y<5").gains(1, 0), 0);
        SplitSlices gap = with("+2x+2y<3");
        due("a gap is left", gap.gains(1, 1), 0);
        told(gap, 0, 1, 1, 2);
        due("no WHOLE POINT", thin.gains(1, 0), -2);
        due("NONE ahead", thin.gains(10, 0), SplitSlices.NONE);
        due("others", s.gains(0, -10), SplitSlices.NONE);
        due("others", s.gains(-10, 0), SplitSlices.NONE);
        told(s, 1, 2, 1, 2);

        about("promise 26");
        SplitSlices six = new SplitSlices();
        for (int i = 0; i < 6; i++) {
            six.adds(1, 0, 4);
        }
        due("with six", six.loses(0, 1, 5), 5);
        told(six, 30);
        due("all", six.loses(0, 1, -1), 35);
        told(six, 0);
        due("none", six.loses(0, -1, 0), 0);
        told(six, 35);
        due("can't be", six.loses(0, 0, 1), SplitSlices.NONE);
        due("can't be", six.loses(6, 0, 1), SplitSlices.NONE);
        due("can't be", six.loses(1, -6, 1), SplitSlices.NONE);
        due("can't be", six.loses(1, 0, 51), SplitSlices.NONE);
        due("nothing changes", six.count(0), 6);
        told(six, 35);

        about("promise 27");
        due("equal ones", six.tightest(), 0);
        told(six, 35);
        SplitSlices t = with("+1x+0y<4;+0x+1y<2;+1x+1y<50");
        due("the second", t.tightest(), 1);
        told(t, 35);
        due("none", new SplitSlices().tightest(), -2);
        SplitSlices never = with("+1x+0y<-1;+0x+1y<-1");
        due("no points", never.tightest(), 0);
        told(never, 0);
    }

    // ---- 28 to 30

    private static void days() {
        about("promise 28");
        SplitSlices s = with("+1x+1y<4;+1x-1y<3");
        due("all", day(s, "b0+05b1+02s000s111cd1"), 6);
        told(s, 0);
        rowsAre(s, 1, 1, 5);
        due("as one", s.count(3), 2);
        due("read", s.count(5), 0);
        due("till one can't be", day(s, "s000b0+05c"), 1);
        told(s, 1);
        due("stored stays", s.count(1), 1);
        due("kept", s.count(3), 3);
        due("none done", day(s, "d7c"), 0);
        told(s, 1);
        due("not kept", s.count(3), 3);
        due("80 ACTS", day(new SplitSlices(), "c".repeat(80)), 80);
        due("empty", day(s, ""), 0);
        told(s, 0);
        due("not kept", s.count(3), 3);
        due("99 is no c", day(s, "b0+99"), 0);
        told(s, 1);
        due("way 9", day(s, "cs900"), 1);
        told(s, 1);
        String[] texts = {"x", "b", "bx", "b0", "b05", "b0+", "b0+5", "b0+5x", "b0+055", "d", "dd", "s0", "s01", "s01x", "cC", "d0;"};
        int[] places = {0, 1, 1, 2, 2, 3, 4, 4, 5, 1, 1, 2, 3, 3, 1, 2};
        for (int i = 0; i < texts.length; i++) {
            due(texts[i], day(s, texts[i]), -1 - places[i]);
            due("read", s.count(5), 0);
        }
        told(s, 1);
        due("way, SIDE, k", day(s, "cs013"), 2);
        due("LOW", s.checks(0), 1);
        told(s, 0, -1, 0);
        due("nothing is done", day(s, "b0+06c?"), -7);
        rowsAre(s, 1, 1, 5);

        about("promise 29");
        SplitSlices u = new SplitSlices();
        due("none", u.undo(), SplitSlices.NONE);
        rows(u, "+1x+1y<4");
        u.adds(1, 0, 3);
        u.becomes(0, 5);
        u.stores(0, 0, 0);
        u.drops(1);
        u.clears();
        day(u, "b0+09b0+08");
        due("seven", u.count(3), 7);
        u.becomes(0, 8);
        u.adds(9, 9, 9);
        u.drops(3);
        rows(u, "x");
        due("refused ones are not kept", u.count(3), 7);
        due("day", u.undo(), 6);
        rowsAre(u, 1, 1, 5);
        due("clears", u.undo(), 5);
        due("stored", u.count(1), 1);
        due("drops", u.undo(), 4);
        rowsAre(u, 1, 1, 5, 1, 0, 3);
        due("stores", u.undo(), 3);
        due("not stored", u.count(1), 0);
        due("becomes", u.undo(), 2);
        rowsAre(u, 1, 1, 4, 1, 0, 3);
        due("adds", u.undo(), 1);
        due("rows", u.undo(), 0);
        rowsAre(u);
        due("none", u.undo(), SplitSlices.NONE);
        u.adds(1, 1, 20);
        u.adds(1, 1, 19);
        u.stores(0, 0, 0);
        u.stores(0, 0, 0);
        due("the second", u.undo(), 3);
        due("the first stays", u.count(1), 1);
        u.undo();
        due("the second", u.undo(), 1);
        rowsAre(u, 1, 1, 20);
        for (int c = 1; c <= 10; c++) {
            u.becomes(0, c);
        }
        due("8 are kept", u.count(3), 8);
        due("a refused one takes none of them away", u.becomes(0, 10), -2);
        for (int left = 7; left >= 0; left--) {
            due("left", u.undo(), left);
        }
        rowsAre(u, 1, 1, 2);
        due("none", u.undo(), SplitSlices.NONE);

        about("promise 30");
        // 1: a draw of 3 is 16838 % 3 = 2, drops() of none
        SplitSlices y = new SplitSlices();
        due("refused", y.years(1, 1), 49);
        told(y, 0, 0);
        // worked out apart, by the words of the promise
        for (long[] want : YEARS) {
            SplitSlices z = with("+1x+2y<9;+3x-1y<8");
            due("years", z.years((int) want[0], (int) want[1]), want[2]);
            due("once more", z.years((int) want[0], (int) want[1]), want[2]);
            told(z, want[3], want[4]);
            rowsAre(z, 1, 2, 9, 3, -1, 8);
            due("forgotten", z.count(3), 1);
        }
        due("n 0", y.years(1, 0), SplitSlices.NONE);
        due("n 21", y.years(1, 21), SplitSlices.NONE);
        due("n below", y.years(1, Integer.MIN_VALUE), SplitSlices.NONE);
        told(y, 0, 0);
    }

    /** Seed, n, WHOLE POINTS, ROWS, how many were done. */
    private static final long[][] YEARS = {
        {0, 1, 17, 2, 0},
        {1, 20, 21, 6, 13},
        {2, 7, 30, 2, 4},
        {-1, 12, 14, 6, 11},
        {123456789, 20, 2, 5, 13},
        {-2147483648L, 3, 28, 2, 2},
        {2147483647, 20, 6, 3, 14},
        {77, 5, 30, 2, 2},
        {4242, 9, 26, 1, 6}
    };

    // ---- 31 to 34

    private static void kept() {
        about("promise 31");
        SplitSlices s = with("+2x+2y<3");
        s.stores(0, 0, 0);
        due("keep", s.keep(0), true);
        due("others", s.keep(2), false);
        due("others", s.keep(-1), false);
        due("keep can't be undone", s.count(3), 2);
        s.drops(0);
        s.clears();
        due("keep another", s.keep(1), true);

        about("promise 32");
        due("again", s.again(0), true);
        rowsAre(s, 2, 2, 3);
        due("stored", s.checks(0), 1);
        due("forgets", s.count(3), 0);
        due("none", s.undo(), SplitSlices.NONE);
        s.becomes(0, 5);
        s.sign(0);
        due("the other", s.again(1), true);
        rowsAre(s);
        due("not stored", s.count(1), 0);
        due("THE TEXT stays", s.count(5), 4);
        due("as it was kept", s.again(0), true);
        rowsAre(s, 2, 2, 3);
        s.becomes(0, 5);
        due("others", s.again(2), false);
        due("others", s.again(-1), false);
        due("nothing kept", new SplitSlices().again(1), false);
        due("a refused one does not forget", s.count(3), 1);

        about("promise 33");
        SplitSlices c = with("+2x+2y<3;+1x+0y<5");
        c.stores(0, 0, 0);
        c.stores(0, 1, 0);
        c.becomes(0, 4);
        c.sign(0);
        c.slice(0, 0, 0);
        int[] want = {2, 2, 1, 4, 4, 4, 3};
        for (int what = 0; what < want.length; what++) {
            due("count(" + what + ")", c.count(what), want[what]);
        }
        c.stores(0, 1, 0);
        due("each point once", c.count(6), 3);
        due("others", c.count(7), SplitSlices.NONE);
        due("others", c.count(-1), SplitSlices.NONE);

        about("promise 34");
        due("last", c.told(3), 1);
        due("none such", toldThrows(c, 4), true);
        due("none such", toldThrows(c, -1), true);
        c.slices(2);
        due("a shorter row", toldThrows(c, 2), true);
        due("first", c.told(0), 3);
        due("nothing told yet", toldThrows(new SplitSlices(), 0), true);
    }
}
