import java.util.NoSuchElementException;

/** What the tests by hand share: answers that are due, texts, and what can be seen of an object. */
abstract class Check {
    private static int wrong = 0;
    private static int asked = 0;
    private static String about = "";

    /** What the answers that come next are about. */
    static void about(String words) {
        about = words;
    }

    /** The document's words, of a promise (0: of the terms), that the answers that come next are about. */
    static void words(int promise, String words) {
        about((promise == 0 ? "terms" : "promise " + promise) + ", \"" + words + "\"");
    }

    static void due(String what, long got, long want) {
        asked++;
        if (got != want) {
            wrong++;
            System.out.println(about + ": " + what + " answered " + got + ", due is " + want);
        }
    }

    static void due(String what, boolean got, boolean want) {
        due(what, got ? 1 : 0, want ? 1 : 0);
    }

    static void due(String what, String got, String want) {
        asked++;
        if (!got.equals(want)) {
            wrong++;
            System.out.println(about + ": " + what + " is " + got + ", due is " + want);
        }
    }

    static void refused(String what, long got) {
        due(what, got, SplitSlices.NONE);
    }

    static void close(String name) {
        System.out.println(name + ": " + (wrong == 0 ? asked + " answers as due" : wrong + " answers are not as due"));
        if (wrong != 0) {
            System.exit(1);
        }
    }

    /** The whole ROW OF NUMBERS. */
    static void told(SplitSlices s, long... want) {
        due("count(4)", s.count(4), want.length);
        for (int i = 0; i < want.length && i < s.count(4); i++) {
            due("told(" + i + ")", s.told(i), want[i]);
        }
    }

    /** Puts these signs behind THE TEXT. */
    static void type(SplitSlices s, String text) {
        int before = s.count(5);
        for (int i = 0; i < text.length(); i += 4) {
            int v = 0;
            for (int j = i; j < i + 4; j++) {
                v = v << 8 | (j < text.length() ? text.charAt(j) : '?');
            }
            s.sign(v);
        }
        due("end", s.end(before + text.length()), true);
    }

    static int rows(SplitSlices s, String text) {
        type(s, text);
        return s.rows();
    }

    static int day(SplitSlices s, String text) {
        type(s, text);
        return s.day();
    }

    static SplitSlices with(String rows) {
        SplitSlices s = new SplitSlices();
        due("rows of " + rows, rows(s, rows) >= 0, true);
        return s;
    }

    /** Whether all told ROWS are these: a, b, c of each. */
    static void rowsAre(SplitSlices s, int... want) {
        due("count(0)", s.count(0), want.length / 3);
        for (int i = 0; i < want.length && i / 3 < s.count(0); i++) {
            due("row(" + i / 3 + ", " + i % 3 + ")", s.row(i / 3, i % 3), want[i]);
        }
    }

    /** ROWS and STORE, what can be undone, THE TEXT's length; the ROW OF NUMBERS is another one then. */
    static String state(SplitSlices s) {
        StringBuilder state = new StringBuilder();
        for (int k = 0; k < s.count(0) + 4; k++) {
            state.append(s.row(k, 0)).append('x').append(s.row(k, 1)).append("y<").append(s.row(k, 2)).append(' ');
        }
        for (int i = 0; i < s.count(1); i++) {
            state.append('[').append(s.checks(i)).append(": ").append(numbers(s)).append(']');
        }
        return state.append(" undo ").append(s.count(3)).append(" text ").append(s.count(5)).toString();
    }

    static String numbers(SplitSlices s) {
        StringBuilder numbers = new StringBuilder();
        for (int i = 0; i < s.count(4); i++) {
            numbers.append(s.told(i)).append(' ');
        }
        return numbers.toString();
    }

    static boolean rowThrows(SplitSlices s, int k, int what) {
        try {
            s.row(k, what);
            return false;
        } catch (NoSuchElementException e) {
            return true;
        }
    }

    static boolean toldThrows(SplitSlices s, int i) {
        try {
            s.told(i);
            return false;
        } catch (NoSuchElementException e) {
            return true;
        }
    }

    interface Ask {
        int of(int x, int y, int d);
    }

    static void notPoints(Ask ask) {
        int[][] no = {{0, 0, 0}, {0, 0, 13}, {0, 0, -1}, {7, 0, 1}, {0, 7, 1}, {-1, 0, 1}, {0, -1, 1}, {73, 0, 12},
            {0, 73, 12}, {0, 0, Integer.MIN_VALUE}, {1, 1, Integer.MAX_VALUE}, {Integer.MAX_VALUE, 0, 1},
            {0, Integer.MAX_VALUE, 1}, {Integer.MIN_VALUE, 0, 12}, {0, Integer.MIN_VALUE, 12}};
        for (int[] n : no) {
            refused("no point", ask.of(n[0], n[1], n[2]));
        }
    }
}
