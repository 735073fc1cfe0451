/** Promises 28 to 34, sentence by sentence: days, years and what is kept, at their edges. Worked out by hand. */
public final class DaysEdgeTests extends Check {
    private static final int LEAST = Integer.MIN_VALUE;
    private static final int GREATEST = Integer.MAX_VALUE;

    public static void main(String[] args) {
        dayActs();
        dayTillOneCant();
        dayRefused();
        undo();
        undoOfEach();
        years();
        yearsRefused();
        keep();
        again();
        count();
        told();
        close("edges of days, years and what is kept");
    }

    private static void dayActs() {
        words(28, "THE TEXT tells A DAY (an empty one: nothing)");
        SplitSlices s = with("+1x+1y<4;+1x-1y<3");
        due("empty", s.day(), 0);
        told(s, 0);
        due("not kept", s.count(3), 1);

        words(28, "ACTS one behind another, without signs between");
        due("b, b, s, c, d", day(s, "b0+05b1-02s000cd1"), 5);
        told(s, 0);
        rowsAre(s, 1, 1, 5);
        due("a space", day(s, "c c"), -2);
        due("a ;", day(s, "c;c"), -2);
        SplitSlices many = new SplitSlices();
        due("80", day(many, "c".repeat(80)), 80);
        told(many, 0);
        due("as one", many.count(3), 1);
        due("80 signs", day(many, "s000".repeat(8) + "c" + "s115".repeat(8) + "c".repeat(15)), 32);
        told(many, 0);

        words(28, "b, a digit (a ROW), + or -, two digits (becomes())");
        SplitSlices b = with("+1x+0y<0;+0x+1y<0");
        due("50, -50", day(b, "b0+50b1-50"), 2);
        rowsAre(b, 1, 0, 50, 0, 1, -50);
        due("05, -00", day(b, "b0+05b1-00"), 2);
        rowsAre(b, 1, 0, 5, 0, 1, 0);
        String[] cant = {"b0+51", "b0-51", "b0+99", "b0-99", "b2+01", "b9+01", "b0+05", "b1+00", "b1-00"};
        for (String text : cant) {
            due(text, day(b, text), 0);
            told(b, 1);
        }
        rowsAre(b, 1, 0, 5, 0, 1, 0);

        words(28, "d, a digit (drops())");
        due("the last one, twice", day(b, "d1d0"), 2);
        rowsAre(b);
        due("none told", day(b, "d0"), 0);
        told(b, 1);
        due("d9", day(with("+1x+0y<0"), "d9"), 0);

        words(28, "s, a digit (way), a digit (SIDE), a digit (k) (stores())");
        SplitSlices t = with("+1x+0y<4");
        due("the first, the last", day(t, "s000s015s115"), 1);
        told(t, 1);
        due("way, SIDE, k in this order", day(t, "s013"), 1);
        due("LOW", t.checks(1), 1);
        told(t, 0, -1, 0);
        due("way 1", day(t, "s103"), 1);
        t.checks(2);
        told(t, 1, 0, 4);
        for (String text : new String[] {"s200", "s900", "s020", "s090", "s006", "s009", "s004"}) {
            due(text, day(t, text), 0);
            told(t, 1);
        }
        due("a ninth", day(t, "s000".repeat(6)), 5);
        told(t, 1);
        due("8", t.count(1), 8);

        words(28, "c (clears())");
        due("8", day(t, "c"), 1);
        due("none", t.count(1), 0);
        due("of none it can be done, too", day(t, "cc"), 2);
        told(t, 0);
    }

    private static void dayTillOneCant() {
        words(28, "they are done one by one, till one can't be (it answers below 0): how many were done; the ROW: 1 if one could not be, else 0");
        SplitSlices s = with("+1x+1y<4;+1x-1y<3");
        due("the first can't be", day(s, "d2b0+09"), 0);
        told(s, 1);
        rowsAre(s, 1, 1, 4, 1, -1, 3);
        due("the second can't be", day(s, "b0+09d2d0"), 1);
        told(s, 1);
        rowsAre(s, 1, 1, 9, 1, -1, 3);
        due("the last can't be", day(s, "b0+08b1+01b1+01"), 2);
        told(s, 1);
        rowsAre(s, 1, 1, 8, 1, -1, 1);
        due("all can be", day(s, "b0+07b1+02"), 2);
        told(s, 0);
        due("each by the ROWS as they are then", day(s, "d0b0+09d0s005"), 4);
        told(s, 0);
        rowsAre(s);
    }

    private static void dayRefused() {
        words(28, "-1 - p: the sign at p can't stand there");
        SplitSlices s = with("+1x+1y<4;+1x-1y<3");
        s.slice(0, 0, 3);
        String good = "b0+09d1s000c";
        String[] wrong = {"aBe0;", "/:b+", "0,.*", "/:+", "/:d", "Dxa9", "/:d", "Stx;", "/:s", "/:x", "/:c", "C;0 "};
        for (int p = 0; p < wrong.length; p++) {
            for (char sign : wrong[p].toCharArray()) {
                String text = good.substring(0, p) + sign + good.substring(p + 1);
                due(text, day(s, text), -1 - p);
            }
        }
        due("a sign 0", day(s, "\0"), -1);
        due("a sign above 127", day(s, "c\u00e3"), -2);
        due("behind the last", day(s, good + "?"), -1 - 12);

        words(28, "its end, if it ends too early");
        for (int length = 1; length < good.length(); length++) {
            if (length != 5 && length != 7 && length != 11) {
                due("the first " + length, day(s, good.substring(0, length)), -1 - length);
            }
        }
        due("the end of 80 signs", day(s, "c".repeat(79) + "d"), -81);
        due("the end of 80 signs", day(s, "c".repeat(76) + "b0+1"), -81);

        words(28, "nothing is done then");
        due("a wrong last sign", day(s, "b0+09d1!"), -8);
        due("a wrong sign behind what can't be", day(s, "d9!"), -3);
        told(s, 0, 1, 1, 1);
        rowsAre(s, 1, 1, 4, 1, -1, 3);
        due("not kept", s.count(3), 1);
        due("nothing is stored", s.count(1), 0);
    }

    private static void undo() {
        words(29, "of 8 that are kept, the latest ones");
        SplitSlices s = with("+1x+1y<0");
        for (int c = 1; c <= 7; c++) {
            s.becomes(0, c);
        }
        due("8", s.count(3), 8);
        s.becomes(0, 8);
        due("no ninth", s.count(3), 8);
        for (int left = 7; left >= 0; left--) {
            due("undo", s.undo(), left);
            rowsAre(s, 1, 1, left);
        }

        for (int c = 1; c <= 20; c++) {
            s.becomes(0, c);
        }
        due("becomes() of what is so", s.becomes(0, 20), -2);
        due("adds() that can't be", s.adds(0, 0, 1), SplitSlices.NONE);
        due("8", s.count(3), 8);
        for (int left = 7; left >= 0; left--) {
            due("undo", s.undo(), left);
            rowsAre(s, 1, 1, 12 + left);
        }
        s.becomes(0, 0);
        s.undo();
        s.becomes(0, 0);
        s.keep(0);
        s.again(0);

        words(29, "Refused: none");
        refused("none is left", s.undo());
        rowsAre(s, 1, 1, 0);
        refused("of a new object", new SplitSlices().undo());

        words(29, "how many are left that can be");
        due("one", s.becomes(0, 5), 100);
        due("two", s.becomes(0, 6), 105);
        due("one is left", s.undo(), 1);
        due("what comes then is behind it", s.becomes(0, 7), 105);
        due("two", s.count(3), 2);
        due("one is left", s.undo(), 1);
        due("none is left", s.undo(), 0);
        rowsAre(s, 1, 1, 0);
        refused("undo() is not undone", s.undo());
    }

    private static void undoOfEach() {
        words(29, "such as were done; day() of which one ACT was done, as one");
        SplitSlices s = with("+1x+1y<4");
        due("rows()", rows(s, "+1x+1y<4"), 1);
        due("the same ROWS are told", s.count(3), 2);
        s.stores(0, 0, 0);
        due("becomes() of what is so", s.becomes(0, 4), -2);
        due("adds() that can't be", s.adds(0, 0, 1), SplitSlices.NONE);
        due("drops() of none", s.drops(1), SplitSlices.NONE);
        due("stores() of an empty SLICE", s.stores(0, 0, 4), -2);
        due("rows() of a wrong text", rows(s, "?"), -1);
        due("rows() of wrong numbers", rows(s, "+0x+0y<1"), -100);
        due("day() of a wrong text", day(s, "?"), -1);
        due("day() of which none was done", day(s, "d1c"), 0);
        due("an empty day()", day(s, ""), 0);
        s.sheet(2, 1, 4, 0);
        s.years(1, 20);
        s.keep(0);
        due("none of these is kept", s.count(3), 3);
        due("day() of which one ACT was done", day(s, "b0+09d5"), 1);
        due("kept", s.count(3), 4);
        due("day() of three ACTS", day(s, "cb0+08d0"), 3);
        due("kept as one", s.count(3), 5);

        words(29, "ROWS and STORE are as ahead of it");
        due("day() of three ACTS", s.undo(), 4);
        rowsAre(s, 1, 1, 9);
        due("its clears(), too", s.count(1), 1);
        due("the other day()", s.undo(), 3);
        rowsAre(s, 1, 1, 4);
        due("adds() of a second", s.adds(1, 0, 1), 2);
        due("drops() of the first", s.drops(0), 1);
        rowsAre(s, 1, 0, 1);
        due("drops()", s.undo(), 4);
        rowsAre(s, 1, 1, 4, 1, 0, 1);
        due("adds()", s.undo(), 3);
        rowsAre(s, 1, 1, 4);
        due("clears()", s.clears() == 1 && s.undo() == 3 && s.count(1) == 1, true);
        s.checks(0);
        told(s, 1, 1, 4);
        due("its PROOF, too", s.checks(0), 1);
        due("stores()", s.undo() == 2 && s.count(1) == 0, true);
        due("rows()", s.undo(), 1);
        rowsAre(s, 1, 1, 4);
        due("rows()", s.undo(), 0);
        rowsAre(s);
        undoOfOne();
        for (int i = 1; i <= 8; i++) {
            s.stores(i % 2, 0, i % 6);
        }
        due("clears() of eight", s.clears(), 8);
        s.stores(1, 1, 0);
        due("stores(), clears()", s.undo() == 7 && s.undo() == 6 && s.count(1) == 8, true);
        for (int i = 0; i < 8; i++) {
            due("as it was", s.checks(i), 1);
            told(s, i % 2 == 1 ? 0 : 1, i % 2 == 1 ? 1 : 0, 6);
        }

        words(29, "again() forgets them, if it is not refused");
        due("six", s.count(3), 6);
        due("refused", s.again(1), false);
        due("six", s.count(3), 6);
        due("again", s.again(0), true);
        due("none", s.count(3), 0);
        refused("none", s.undo());
        rowsAre(s, 1, 1, 4);
    }

    /** Each call alone, where another one was undone ahead of it. */
    private static void undoOfOne() {
        for (int call = 0; call < 7; call++) {
            SplitSlices s = with("+1x+1y<4;+1x+0y<3");
            s.stores(0, 0, 0);
            String before = state(s);
            s.drops(0);
            s.undo();
            s.sheet(2, 2, 4, -1);
            due("as it was", state(s), before);
            s.clears();
            s.undo();
            s.becomes(1, 2);
            s.keep(0);
            s.again(0);
            s.becomes(0, 7);
            before = state(s).replace("undo 1", "");
            int[] answers = {call == 0 ? rows(s, "+2x+1y<4") : 0, call == 1 ? s.becomes(1, 9) : 0,
                call == 2 ? s.adds(1, 1, 1) : 0, call == 3 ? s.drops(0) : 0, call == 4 ? s.stores(1, 1, 0) : 0,
                call == 5 ? s.clears() : 0, call == 6 ? day(s, "d0c") : 0};
            due("done", answers[call] > 0, true);
            due("changed", state(s).replace("undo 2", "").equals(before), false);
            due("undone", s.undo(), 1);
            due("call " + call, state(s).replace("undo 1", ""), before);
        }
    }

    private static void years() {
        words(30, "(what is refused is not done): how many WHOLE POINTS there would be then; the ROW: how many ROWS would be told, how many were done");
        // R of seed 1 is 1103527590 first: 16838 % 3 is 2, drops() of (2524885223 by 65536 = 38526) % 6 = 0
        SplitSlices none = new SplitSlices();
        due("drops() of none", none.years(1, 1), 49);
        told(none, 0, 0);
        SplitSlices one = with("+1x+0y<0");
        due("drops() of the one", one.years(1, 1), 49);
        told(one, 0, 1);
        for (int seed : new int[] {0, 1, -1, 2, 6, 77, 4242, -4242, GREATEST, LEAST, GREATEST - 1, LEAST + 1}) {
            for (int n : new int[] {1, 2, 3, 19, 20}) {
                drawn(seed, n, "+1x+2y<9;+3x-1y<8");
                drawn(seed, n, "");
                drawn(seed, n, "+1x+1y<9;+1x+1y<8;+1x+1y<7;+1x+1y<6;-1x+1y<5;+1x-1y<4");
            }
        }

        due("by the ROWS as they are", one.drops(0) == 0 && one.adds(0, 1, 0) == 1 && one.adds(1, 0, 1) == 2, true);
        one.cut(0, 0, 0);
        due("drops() of the first", one.years(1, 1), 14);
        told(one, 1, 1);

        words(30, "R = R times 1103515245 + 12345 (as ints; R is seed at first), (R without sign, by 65536) % n");
        // R of seed -1 is -1103502900: 3191464396 by 65536 is 48697, % 3 is 1; then three draws for adds()
        drawn(-1, 1, "+1x+2y<9");
        SplitSlices below = with("+1x+2y<9");
        due("R is below 0", below.years(-1, 1) >= 0, true);
        due("adds(), not drops()", below.told(0), 2);

        words(30, "it is forgotten");
        SplitSlices s = with("+1x+2y<9;+3x-1y<8");
        s.stores(0, 0, 0);
        type(s, "c");
        String before = state(s);
        s.years(4242, 20);
        due("state", state(s), before);
    }

    /** By the words of the promise, on an object of its own. */
    private static void drawn(int seed, int n, String rows) {
        SplitSlices s = with(rows);
        int[] r = {seed};
        int done = 0;
        for (int i = 0; i < n; i++) {
            int answer;
            int kind = draw(r, 3);
            if (kind == 0) {
                int k = draw(r, 6);
                int c = draw(r, 51);
                answer = s.becomes(k, c);
            } else if (kind == 1) {
                int a = draw(r, 11) - 5;
                int b = draw(r, 11) - 5;
                int c = draw(r, 41);
                answer = s.adds(a, b, c);
            } else {
                answer = s.drops(draw(r, 6));
            }
            done += answer >= 0 ? 1 : 0;
        }
        SplitSlices asked = with(rows);
        due("years(" + seed + ", " + n + ")", asked.years(seed, n), s.wholes());
        told(asked, s.count(0), done);
    }

    private static int draw(int[] r, int n) {
        long next = (r[0] * 1103515245L + 12345L) & 0xffffffffL;
        r[0] = (int) next;
        return (int) (next / 65536 % n);
    }

    private static void yearsRefused() {
        words(30, "NONE: another n");
        SplitSlices s = with("+1x+2y<9");
        s.years(0, 1);
        String numbers = numbers(s);
        for (int n : new int[] {0, 21, -1, LEAST, GREATEST}) {
            refused("n " + n, s.years(0, n));
        }
        due("the ROW stays", numbers(s), numbers);
        due("1 can be", s.years(0, 1) >= 0, true);
        due("20 can be", s.years(0, 20) >= 0, true);
    }

    private static void keep() {
        words(31, "ROWS and STORE are kept under a number 0 .. 1: true");
        SplitSlices s = with("+2x+2y<3");
        s.stores(0, 0, 0);
        due("0", s.keep(0), true);
        s.adds(1, 0, 1);
        s.clears();
        due("1", s.keep(1), true);
        s.drops(0);
        due("it can't be undone", s.count(3), 5);
        due("0", s.again(0), true);
        rowsAre(s, 2, 2, 3);
        due("with its PROOF", s.checks(0), 1);
        due("1", s.again(1), true);
        rowsAre(s, 2, 2, 3, 1, 0, 1);
        due("nothing stored", s.count(1), 0);
        s.becomes(0, 9);
        due("anew under the same number", s.keep(1), true);
        due("the other", s.again(0), true);
        due("the later one", s.again(1), true);
        rowsAre(s, 2, 2, 9, 1, 0, 1);
        SplitSlices empty = new SplitSlices();
        due("no ROWS", empty.keep(0), true);
        empty.adds(1, 1, 1);
        due("no ROWS", empty.again(0), true);
        rowsAre(empty);

        words(31, "Refused: others");
        for (int i : new int[] {2, -1, LEAST, GREATEST}) {
            due("keep(" + i + ")", s.keep(i), false);
        }
        due("0 is as it was", s.again(0), true);
        rowsAre(s, 2, 2, 3);
    }

    private static void again() {
        words(32, "They are as they were kept under a number");
        SplitSlices s = with("+2x+2y<3");
        s.keep(0);
        for (int i = 0; i < 8; i++) {
            s.stores(0, 0, 0);
        }
        s.keep(1);
        type(s, "ccc");
        s.slice(0, 0, 0);
        due("0", s.again(0), true);
        due("nothing stored", s.count(1), 0);
        due("1", s.again(1), true);
        due("eight stored", s.count(2), 8);
        due("twice", s.again(1), true);
        due("what is changed then", s.becomes(0, 5), 103);
        due("does not change what is kept", s.again(1), true);
        rowsAre(s, 2, 2, 3);
        due("nor does a sheet", s.sheet(2, 1, 9, 0) == 1 && s.again(1), true);
        rowsAre(s, 2, 2, 3);
        due("THE TEXT stays", s.count(5), 3);
        told(s, 0, 1, 3, 2);

        words(32, "Refused: nothing kept");
        SplitSlices one = with("+2x+2y<3");
        due("under 0", one.again(0), false);
        one.keep(1);
        due("under 0", one.again(0), false);
        for (int i : new int[] {2, -1, LEAST, GREATEST}) {
            due("again(" + i + ")", one.again(i), false);
        }
        due("nothing is forgotten", one.count(3), 1);
        due("under 1", one.again(1), true);
    }

    private static void count() {
        words(33, "What 0: ROWS that were told, 1: stored CUTS, 2: stored CUTS whose PROOF CHECKS now");
        SplitSlices s = with("+2x+2y<3;+1x+0y<5");
        due("none", s.count(1) == 0 && s.count(2) == 0, true);
        for (int i = 1; i <= 8; i++) {
            s.stores(0, i % 2, 0);
            due("all check", s.count(2), i);
        }
        due("8", s.count(1), 8);
        s.becomes(0, 4);
        due("half of them", s.count(2), 4);
        s.drops(1);
        due("none", s.count(2), 0);
        due("1", s.count(0), 1);
        for (int i = 2; i <= 6; i++) {
            s.adds(1, 1, 50);
        }
        due("6, the four are not told", s.count(0), 6);

        words(33, "3: what can be undone, 4: numbers of the ROW OF NUMBERS, 5: signs of THE TEXT");
        due("8", s.count(3), 8);
        due("no numbers", s.count(4), 0);
        s.cut(0, 0, 0);
        due("thirteen", s.count(4), 13);
        s.tightest();
        due("one", s.count(4), 1);
        due("no signs", s.count(5), 0);
        type(s, "+".repeat(80));
        due("80", s.count(5), 80);

        words(33, "6: WHOLE POINTS of REGION 0 that do not hold some stored CUT");
        SplitSlices t = with("+1x+1y<2");
        due("none stored", t.count(6), 0);
        t.stores(0, 0, 0);
        due("all hold it", t.count(6), 0);
        t.becomes(0, 3);
        due("x + y = 3", t.count(6), 4);
        t.stores(0, 0, 0);
        due("the other one they hold", t.count(6), 4);
        t.becomes(0, 2);
        due("none", t.count(6), 0);
        rows(t, "+0x+1y<0");
        due("y = 0, x above 2", t.count(6), 4);
        rows(t, "+1x+0y<-1");
        due("no POINTS", t.count(6), 0);
        rows(t, "+0x+1y<0");
        t.stores(0, 0, 0);
        rows(t, "");
        due("each once: all but y = 0, x at most 2", t.count(6), 46);
        SplitSlices first = with("-1x-1y<-1");
        first.stores(0, 1, 0);
        first.drops(0);
        due("the first POINT alone", first.count(6), 1);

        words(33, "NONE for another what");
        for (int what : new int[] {7, -1, LEAST, GREATEST}) {
            refused("count(" + what + ")", t.count(what));
        }
    }

    private static void told() {
        words(34, "NoSuchElementException: none such");
        SplitSlices s = new SplitSlices();
        due("nothing told yet", toldThrows(s, 0), true);
        s.cut(0, 0, 0);
        due("the first", s.told(0), 0);
        due("the last", s.told(12), 1);
        for (int i : new int[] {13, -1, LEAST, GREATEST}) {
            due("told(" + i + ") throws", toldThrows(s, i), true);
        }
        s.slices(2);
        due("the last of a shorter one", s.told(1), 7);
        due("what an earlier one had", toldThrows(s, 2), true);
        s.adds(1, 0, -1);
        s.wholes();
        due("of an empty one", toldThrows(s, 0), true);
    }
}
