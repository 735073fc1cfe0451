import java.math.BigInteger;
import java.nio.ByteBuffer;
import java.util.ArrayDeque;
import java.util.ArrayList;
import java.util.List;
import java.util.NoSuchElementException;
import java.util.Random;
import java.util.regex.Matcher;
import java.util.regex.Pattern;

/**
 * Long runs of drawn calls on the class and on a model of it. The model is built in other ways than the class (regions
 * as half planes, texts by patterns, plans as lists that never change), so that a fault would have to be made twice.
 */
public final class ModelTests {
    private static int wrong = 0;
    private static long calls = 0;

    public static void main(String[] args) {
        for (int run = 0; run < 400; run++) {
            new Run(run).go();
            if (wrong > 20) {
                break;
            }
        }
        System.out.println(wrong == 0 ? "model: " + calls + " calls as due" : "model: " + wrong + " answers are not as due");
        if (wrong != 0) {
            System.exit(1);
        }
    }

    // ---- exact numbers

    private record F(BigInteger up, BigInteger low) implements Comparable<F> {
        static F of(long up, long low) {
            return of(BigInteger.valueOf(up), BigInteger.valueOf(low));
        }

        static F of(BigInteger up, BigInteger low) {
            BigInteger g = up.gcd(low);
            if (low.signum() < 0) {
                g = g.negate();
            }
            return new F(up.divide(g), low.divide(g));
        }

        static F of(long whole) {
            return of(whole, 1);
        }

        F plus(F o) {
            return of(up.multiply(o.low).add(o.up.multiply(low)), low.multiply(o.low));
        }

        F minus(F o) {
            return plus(new F(o.up.negate(), o.low));
        }

        F times(F o) {
            return of(up.multiply(o.up), low.multiply(o.low));
        }

        F by(F o) {
            return of(up.multiply(o.low), low.multiply(o.up));
        }

        F neg() {
            return new F(up.negate(), low);
        }

        int sign() {
            return up.signum();
        }

        boolean isWhole() {
            return low.equals(BigInteger.ONE);
        }

        @Override
        public int compareTo(F o) {
            return minus(o).sign();
        }
    }

    /** a x + b y at most c. */
    private record Half(F a, F b, F c) {
        boolean holds(F x, F y) {
            return a.times(x).plus(b.times(y)).compareTo(c) <= 0;
        }
    }

    private record Ends(F low, F high) {
    }

    /** null stands for nothing at all: the empty region, in which every slice is empty. */
    private record Area(List<Half> halves, boolean nothing) {
        boolean contains(F x, F y) {
            return !nothing && halves.stream().allMatch(h -> h.holds(x, y));
        }

        Ends slice(int way, int k) {
            if (nothing) {
                return null;
            }
            F low = null;
            F high = null;
            for (Half h : halves) {
                F z = way == 0 ? h.a : h.b;
                F w = way == 0 ? h.b : h.a;
                F rest = h.c.minus(z.times(F.of(k)));
                if (w.sign() == 0) {
                    if (rest.sign() < 0) {
                        return null;
                    }
                    continue;
                }
                F at = rest.by(w);
                if (w.sign() > 0) {
                    high = high == null || at.compareTo(high) < 0 ? at : high;
                } else {
                    low = low == null || at.compareTo(low) > 0 ? at : low;
                }
            }
            return low.compareTo(high) > 0 ? null : new Ends(low, high);
        }

        /** What passes by one way: the convex hull of the slices, told by its lines. */
        Area passing(int way) {
            List<Half> out = new ArrayList<>();
            int first = -1;
            int last = -1;
            for (int k = 0; k <= 6; k++) {
                if (slice(way, k) != null) {
                    first = first < 0 ? k : first;
                    last = k;
                }
            }
            if (first < 0) {
                return new Area(List.of(), true);
            }
            out.add(half(way, F.of(1), F.of(0), F.of(last)));
            out.add(half(way, F.of(-1), F.of(0), F.of(-first)));
            if (first == last) {
                Ends e = slice(way, first);
                out.add(half(way, F.of(0), F.of(1), e.high));
                out.add(half(way, F.of(0), F.of(-1), e.low.neg()));
            }
            for (int k = first; k < last; k++) {
                Ends e = slice(way, k);
                Ends f = slice(way, k + 1);
                F up = f.high.minus(e.high);
                F down = f.low.minus(e.low);
                out.add(half(way, up.neg(), F.of(1), e.high.minus(up.times(F.of(k)))));
                out.add(half(way, down, F.of(-1), down.times(F.of(k)).minus(e.low)));
            }
            return new Area(out, false);
        }

        static Half half(int way, F z, F w, F c) {
            return way == 0 ? new Half(z, w, c) : new Half(w, z, c);
        }

        Area next() {
            Area p = passing(0);
            Area q = passing(1);
            if (p.nothing || q.nothing) {
                return new Area(List.of(), true);
            }
            List<Half> all = new ArrayList<>(p.halves);
            all.addAll(q.halves);
            return new Area(all, false);
        }
    }

    private record Row(int a, int b, int c) {
        static boolean can(int a, int b, int c) {
            return Math.abs(a) <= 5 && Math.abs(b) <= 5 && (a | b) != 0 && Math.abs(c) <= 50;
        }

        boolean can() {
            return can(a, b, c);
        }

        boolean holds(long x, long y) {
            return a * x + b * y <= c;
        }
    }

    private record Cut(int way, int k, F a, F b, F c, int i, int j, F u, F s, F v, F t) {
    }

    private record Plan(List<Row> told, List<Cut> cuts) {
        List<Row> all() {
            List<Row> all = new ArrayList<>(told);
            all.addAll(List.of(new Row(-1, 0, 0), new Row(1, 0, 6), new Row(0, -1, 0), new Row(0, 1, 6)));
            return all;
        }

        Area area(int r) {
            List<Half> halves = new ArrayList<>();
            for (Row row : all()) {
                halves.add(new Half(F.of(row.a), F.of(row.b), F.of(row.c)));
            }
            Area area = new Area(halves, false);
            for (int i = 0; i < r; i++) {
                area = area.next();
            }
            return area;
        }

        List<int[]> wholes() {
            List<int[]> out = new ArrayList<>();
            for (int x = 0; x <= 6; x++) {
                for (int y = 0; y <= 6; y++) {
                    int px = x;
                    int py = y;
                    if (told.stream().allMatch(row -> row.holds(px, py))) {
                        out.add(new int[] {x, y});
                    }
                }
            }
            return out;
        }

        Plan with(List<Row> newTold) {
            return new Plan(List.copyOf(newTold), cuts);
        }

        Plan withCuts(List<Cut> newCuts) {
            return new Plan(told, List.copyOf(newCuts));
        }
    }

    // ---- the model

    private static final Pattern ROWS = Pattern.compile(
            "([+-][0-5]x[+-][0-5]y<-?[0-9]{1,2})(;[+-][0-5]x[+-][0-5]y<-?[0-9]{1,2}){0,5}");
    private static final Pattern DAY = Pattern.compile("(b[0-9][+-][0-9][0-9]|d[0-9]|s[0-9][0-9][0-9]|c)*");

    private static final class Model {
        Plan now = new Plan(List.of(), List.of());
        final ArrayDeque<Plan> past = new ArrayDeque<>();
        final Plan[] kept = new Plan[2];
        String text = "";
        List<Long> row = List.of();

        void tell(Object... numbers) {
            List<Long> out = new ArrayList<>();
            for (Object n : numbers) {
                if (n instanceof F f) {
                    out.add(f.up.longValueExact());
                    out.add(f.low.longValueExact());
                } else {
                    out.add(((Number) n).longValue());
                }
            }
            row = out;
        }

        void changed(Plan before) {
            past.addLast(before);
            if (past.size() > 8) {
                past.removeFirst();
            }
        }

        int sign(int v) {
            if (text.length() > 76) {
                return -1;
            }
            for (byte b : ByteBuffer.allocate(4).putInt(v).array()) {
                text += (char) (b & 255);
            }
            return text.length();
        }

        boolean end(int n) {
            if (n < 0 || n > text.length()) {
                return false;
            }
            text = text.substring(0, n);
            return true;
        }

        static int fault(Pattern pattern, String text) {
            for (int n = 1; n <= text.length(); n++) {
                Matcher m = pattern.matcher(text.substring(0, n));
                if (!m.matches() && !m.hitEnd()) {
                    return n - 1;
                }
            }
            return pattern.matcher(text).matches() ? -1 : text.length();
        }

        int rows() {
            String t = text;
            text = "";
            List<Row> told = new ArrayList<>();
            if (!t.isEmpty()) {
                int fault = fault(ROWS, t);
                if (fault >= 0) {
                    return -1 - fault;
                }
                for (String one : t.split(";")) {
                    String[] p = one.split("[xy]");
                    told.add(new Row(Integer.parseInt(p[0]), Integer.parseInt(p[1]), Integer.parseInt(p[2].substring(1))));
                }
            }
            for (int k = 0; k < told.size(); k++) {
                if (!told.get(k).can()) {
                    return -100 - k;
                }
            }
            changed(now);
            now = now.with(told);
            return told.size();
        }

        int row(int k, int what) {
            List<Row> all = now.all();
            if (k < 0 || k >= all.size() || what < 0 || what > 2) {
                throw new NoSuchElementException();
            }
            Row r = all.get(k);
            return what == 0 ? r.a : what == 1 ? r.b : r.c;
        }

        int sheet(int kind, int n, int f, int step) {
            if (kind < 0 || kind > 3 || n > 6) {
                return -1;
            }
            if (kind < 3 && n < 0) {
                return -2;
            }
            List<Row> told = new ArrayList<>();
            int entry = f;
            for (Row r : now.told) {
                int c = 0;
                if (kind < 3 && told.size() < n) {
                    c = kind == 0 ? (byte) entry : kind == 1 ? (short) entry : entry;
                    c = ((c % 51) + 51) % 51;
                }
                told.add(new Row(r.a, r.b, c));
                entry += step;
            }
            now = now.with(told);
            return kind == 3 ? -3 : told.size();
        }

        int doBecomes(int k, int c) {
            if (k < 0 || k >= now.told.size() || Math.abs((long) c) > 50) {
                return -1;
            }
            Row r = now.told.get(k);
            if (r.c == c) {
                return -2;
            }
            List<Row> told = new ArrayList<>(now.told);
            told.set(k, new Row(r.a, r.b, c));
            now = now.with(told);
            return 100 + r.c;
        }

        int doAdds(int a, int b, int c) {
            if (!canBe(a, b, c)) {
                return -1;
            }
            if (now.told.size() == 6) {
                return -2;
            }
            List<Row> told = new ArrayList<>(now.told);
            told.add(new Row(a, b, c));
            now = now.with(told);
            return told.size();
        }

        static boolean canBe(int a, int b, int c) {
            return a >= -5 && a <= 5 && b >= -5 && b <= 5 && !(a == 0 && b == 0) && c >= -50 && c <= 50;
        }

        int doDrops(int k) {
            if (k < 0 || k >= now.told.size()) {
                return -1;
            }
            List<Row> told = new ArrayList<>(now.told);
            told.remove(k);
            now = now.with(told);
            return told.size();
        }

        int doStores(int way, int side, int k) {
            if (!canCut(way, side, k)) {
                return -1;
            }
            Cut cut = findCut(way, side, k);
            if (cut == null) {
                return -2;
            }
            if (now.cuts.size() == 8) {
                return -3;
            }
            List<Cut> cuts = new ArrayList<>(now.cuts);
            cuts.add(cut);
            now = now.withCuts(cuts);
            return cuts.size();
        }

        int doClears() {
            int n = now.cuts.size();
            now = now.withCuts(List.of());
            return n;
        }

        int noted(Plan before, int answer) {
            if (answer >= 0) {
                changed(before);
            }
            return answer;
        }

        static boolean isPoint(int x, int y, int d) {
            return d >= 1 && d <= 12 && x >= 0 && y >= 0 && x <= 6 * d && y <= 6 * d;
        }

        int slice(int r, int way, int k) {
            if (r < 0 || r > 2 || way < 0 || way > 1 || k < 0 || k > 6) {
                return -1;
            }
            Ends e = now.area(r).slice(way, k);
            if (e == null) {
                return 0;
            }
            tell(e.low, e.high);
            return 1;
        }

        int inside(int r, int x, int y, int d) {
            if (r < 0 || r > 3 || !isPoint(x, y, d)) {
                return -1;
            }
            return now.area(r).contains(F.of(x, d), F.of(y, d)) ? 1 : 0;
        }

        int round(int x, int y, int d) {
            for (int r = 0; r <= 3; r++) {
                int in = inside(r, x, y, d);
                if (in < 1) {
                    return in < 0 ? in : r;
                }
            }
            return -2;
        }

        int splits(int r, int x, int y, int d) {
            int in = r == 3 ? -1 : inside(r, x, y, d);
            if (in < 1) {
                return in < 0 ? in : -2;
            }
            int p = now.area(r).passing(0).contains(F.of(x, d), F.of(y, d)) ? 0 : 1;
            int q = now.area(r).passing(1).contains(F.of(x, d), F.of(y, d)) ? 0 : 1;
            tell(p, q);
            return p + q;
        }

        int slices(int r) {
            if (r < 0 || r > 2) {
                return -1;
            }
            Area area = now.area(r);
            int[] n = new int[2];
            F most = F.of(0);
            for (int way = 0; way < 2; way++) {
                for (int k = 0; k <= 6; k++) {
                    Ends e = area.slice(way, k);
                    if (e != null) {
                        n[way]++;
                        F length = e.high.minus(e.low);
                        most = way == 0 && length.compareTo(most) > 0 ? length : most;
                    }
                }
            }
            if (r < 2) {
                tell(n[0], n[1], most);
            } else {
                tell(n[0], n[1]);
            }
            return n[0] + n[1];
        }

        static boolean canCut(int way, int side, int k) {
            return way >= 0 && way <= 1 && side >= 0 && side <= 1 && k >= 0 && k <= 5;
        }

        Cut findCut(int way, int side, int k) {
            Area area = now.area(0);
            Ends e = area.slice(way, k);
            Ends f = area.slice(way, k + 1);
            if (e == null || f == null) {
                return null;
            }
            F at = side == 0 ? e.high : e.low;
            F then = side == 0 ? f.high : f.low;
            // w - slope z at most at - slope k, the signs changed about for LOW
            F sign = F.of(side == 0 ? 1 : -1);
            F slope = then.minus(at);
            F z = slope.neg().times(sign);
            F w = sign;
            F c = at.minus(slope.times(F.of(k))).times(sign);
            BigInteger l = lcm(lcm(z.low, w.low), c.low);
            BigInteger g = z.up.multiply(l).divide(z.low).gcd(w.up.multiply(l).divide(w.low)).gcd(c.up.multiply(l).divide(c.low));
            F scale = F.of(l, g);
            z = z.times(scale);
            w = w.times(scale);
            c = c.times(scale);
            int i = bounding(way, side, k, at);
            int j = bounding(way, side, k + 1, then);
            Row ri = now.all().get(i);
            Row rj = now.all().get(j);
            F u = w.by(F.of(way == 0 ? ri.b : ri.a));
            F s = z.minus(u.times(F.of(way == 0 ? ri.a : ri.b)));
            F v = w.by(F.of(way == 0 ? rj.b : rj.a));
            F t = v.times(F.of(way == 0 ? rj.a : rj.b)).minus(z);
            if (u.sign() < 0 || s.sign() < 0 || v.sign() < 0 || t.sign() < 0) {
                throw new IllegalStateException("a multiplier below 0");
            }
            return new Cut(way, k, way == 0 ? z : w, way == 0 ? w : z, c, i, j, u, s, v, t);
        }

        static BigInteger lcm(BigInteger a, BigInteger b) {
            return a.multiply(b).divide(a.gcd(b));
        }

        int bounding(int way, int side, int z, F w) {
            List<Row> all = now.all();
            for (int i = 0; i < all.size(); i++) {
                Row r = all.get(i);
                int across = way == 0 ? r.b : r.a;
                F x = way == 0 ? F.of(z) : w;
                F y = way == 0 ? w : F.of(z);
                boolean exact = F.of(r.a).times(x).plus(F.of(r.b).times(y)).equals(F.of(r.c));
                if (exact && (side == 0 ? across > 0 : across < 0)) {
                    return i;
                }
            }
            throw new IllegalStateException("no row bounds");
        }

        int cut(int way, int side, int k) {
            if (!canCut(way, side, k)) {
                return -1;
            }
            Cut cut = findCut(way, side, k);
            if (cut == null) {
                return -2;
            }
            tell(cut.a.up, cut.b.up, cut.c.up, cut.i, cut.j, cut.u, cut.s, cut.v, cut.t);
            return 1;
        }

        boolean proves(Cut cut) {
            return half(cut, cut.i, cut.u, cut.s, 1, cut.k) && half(cut, cut.j, cut.v, cut.t, -1, -(cut.k + 1));
        }

        boolean half(Cut cut, int i, F u, F s, int z, int bound) {
            if (i >= now.all().size()) {
                return false;
            }
            Row r = now.all().get(i);
            F a = u.times(F.of(r.a)).plus(cut.way == 0 ? s.times(F.of(z)) : F.of(0));
            F b = u.times(F.of(r.b)).plus(cut.way == 1 ? s.times(F.of(z)) : F.of(0));
            F c = u.times(F.of(r.c)).plus(s.times(F.of(bound)));
            return a.equals(cut.a) && b.equals(cut.b) && c.compareTo(cut.c) <= 0;
        }

        int checks(int i) {
            if (i < 0 || i >= now.cuts.size()) {
                return -1;
            }
            Cut cut = now.cuts.get(i);
            tell(cut.a.up, cut.b.up, cut.c.up);
            return proves(cut) ? 1 : 0;
        }

        int stronger(int i) {
            if (i < 0 || i >= now.cuts.size()) {
                return -1;
            }
            Cut cut = now.cuts.get(i);
            long g = cut.a.up.gcd(cut.b.up).longValueExact();
            long a = cut.a.up.longValueExact() / g;
            long b = cut.b.up.longValueExact() / g;
            long c = Math.floorDiv(cut.c.up.longValueExact(), g);
            long off = now.wholes().stream().filter(p -> a * p[0] + b * p[1] > c).count();
            tell(a, b, F.of(c).equals(F.of(cut.c.up.longValueExact(), g)) ? 0 : 1, off);
            return (int) c;
        }

        int breaks(int x, int y, int d) {
            if (!isPoint(x, y, d)) {
                return -1;
            }
            F best = null;
            int at = -2;
            for (int i = 0; i < now.cuts.size(); i++) {
                Cut cut = now.cuts.get(i);
                F by = cut.a.times(F.of(x, d)).plus(cut.b.times(F.of(y, d))).minus(cut.c);
                if (best == null || by.compareTo(best) > 0) {
                    best = by;
                    at = i;
                }
            }
            if (best != null) {
                tell(best);
            }
            return at;
        }

        int wholes() {
            List<int[]> w = now.wholes();
            if (w.isEmpty()) {
                tell();
            } else {
                int[] f = w.get(0);
                int[] l = w.get(w.size() - 1);
                tell(f[0], f[1], l[0], l[1]);
            }
            return w.size();
        }

        /** Goes from corner to corner: the next one has all points to its left, and of those on the line is the farthest. */
        int hull() {
            List<int[]> w = now.wholes();
            List<Object> out = new ArrayList<>();
            if (!w.isEmpty()) {
                int[] start = w.get(0);
                int[] at = start;
                do {
                    out.add(at[0]);
                    out.add(at[1]);
                    int[] best = null;
                    for (int[] p : w) {
                        if (p != at) {
                            int turn = best == null ? -1
                                    : (best[0] - at[0]) * (p[1] - at[1]) - (best[1] - at[1]) * (p[0] - at[0]);
                            if (turn < 0 || turn == 0 && far(at, p) > far(at, best)) {
                                best = p;
                            }
                        }
                    }
                    at = best == null ? start : best;
                } while (at != start);
            }
            tell(out.toArray());
            return out.size() / 2;
        }

        static int far(int[] p, int[] q) {
            return (p[0] - q[0]) * (p[0] - q[0]) + (p[1] - q[1]) * (p[1] - q[1]);
        }

        int nearest(int x, int y, int d) {
            if (!isPoint(x, y, d)) {
                return -1;
            }
            F least = null;
            int[] at = null;
            int n = 0;
            for (int[] p : now.wholes()) {
                F dx = F.of(p[0]).minus(F.of(x, d));
                F dy = F.of(p[1]).minus(F.of(y, d));
                F far = dx.times(dx).plus(dy.times(dy));
                if (least == null || far.compareTo(least) < 0) {
                    least = far;
                    at = p;
                    n = 1;
                } else if (far.equals(least)) {
                    n++;
                }
            }
            if (at == null) {
                return -2;
            }
            tell(at[0], at[1], least);
            return n;
        }

        /** The corners that are left of the square of all points when row after row cuts it. */
        List<F[]> corners() {
            List<F[]> poly = new ArrayList<>();
            for (int[] p : new int[][] {{0, 0}, {6, 0}, {6, 6}, {0, 6}}) {
                poly.add(new F[] {F.of(p[0]), F.of(p[1])});
            }
            for (Row r : now.told) {
                List<F[]> next = new ArrayList<>();
                for (int i = 0; i < poly.size(); i++) {
                    F[] p = poly.get(i);
                    F[] q = poly.get((i + 1) % poly.size());
                    F vp = over(r, p);
                    F vq = over(r, q);
                    if (vp.sign() <= 0) {
                        next.add(p);
                    }
                    if (vp.sign() * vq.sign() < 0) {
                        F f = vp.by(vp.minus(vq));
                        next.add(new F[] {p[0].plus(f.times(q[0].minus(p[0]))), p[1].plus(f.times(q[1].minus(p[1])))});
                    }
                }
                poly = next;
            }
            return poly;
        }

        static F over(Row r, F[] p) {
            return F.of(r.a).times(p[0]).plus(F.of(r.b).times(p[1])).minus(F.of(r.c));
        }

        F findMost(int a, int b, int what) {
            List<F[]> over = new ArrayList<>();
            if (what == 0) {
                over = corners();
            } else if (what == 3) {
                for (int[] p : now.wholes()) {
                    over.add(new F[] {F.of(p[0]), F.of(p[1])});
                }
            } else {
                for (int k = 0; k <= 6; k++) {
                    Ends e = now.area(0).slice(what - 1, k);
                    if (e != null) {
                        for (F end : List.of(e.low, e.high)) {
                            over.add(what == 1 ? new F[] {F.of(k), end} : new F[] {end, F.of(k)});
                        }
                    }
                }
            }
            return over.stream().map(p -> F.of(a).times(p[0]).plus(F.of(b).times(p[1]))).max(F::compareTo).orElse(null);
        }

        int most(int a, int b, int what) {
            if (a < -9 || a > 9 || b < -9 || b > 9 || what < 0 || what > 3) {
                return -1;
            }
            F most = findMost(a, b, what);
            if (most == null) {
                return -2;
            }
            tell(most);
            return 0;
        }

        int gains(int a, int b) {
            if (a < -9 || a > 9 || b < -9 || b > 9) {
                return -1;
            }
            if (now.wholes().isEmpty()) {
                return -2;
            }
            F m0 = findMost(a, b, 0);
            F m1 = findMost(a, b, 1);
            F m2 = findMost(a, b, 2);
            int way = m2.compareTo(m1) < 0 ? 1 : 0;
            tell(m0.minus(way == 1 ? m2 : m1), m0.minus(findMost(a, b, 3)));
            return way;
        }

        int loses(int a, int b, int c) {
            if (!canBe(a, b, c)) {
                return -1;
            }
            long stay = now.wholes().stream().filter(p -> new Row(a, b, c).holds(p[0], p[1])).count();
            tell(stay);
            return now.wholes().size() - (int) stay;
        }

        int tightest() {
            int best = -1;
            int at = -2;
            for (int k = 0; k < now.told.size(); k++) {
                List<Row> told = new ArrayList<>(now.told);
                told.remove(k);
                int n = now.with(told).wholes().size();
                if (n > best) {
                    best = n;
                    at = k;
                }
            }
            if (at >= 0) {
                tell(best);
            }
            return at;
        }

        int day() {
            String t = text;
            text = "";
            int fault = fault(DAY, t);
            if (fault >= 0) {
                return -1 - fault;
            }
            Plan before = now;
            int done = 0;
            int failed = 0;
            Matcher m = Pattern.compile("[bdsc][^bdsc]*").matcher(t);
            while (failed == 0 && m.find()) {
                String act = m.group();
                int answer = switch (act.charAt(0)) {
                    case 'b' -> doBecomes(act.charAt(1) - '0', Integer.parseInt(act.substring(2)));
                    case 'd' -> doDrops(act.charAt(1) - '0');
                    case 's' -> doStores(act.charAt(1) - '0', act.charAt(2) - '0', act.charAt(3) - '0');
                    default -> doClears();
                };
                if (answer < 0) {
                    failed = 1;
                } else {
                    done++;
                }
            }
            if (done > 0) {
                changed(before);
            }
            tell(failed);
            return done;
        }

        int undo() {
            if (past.isEmpty()) {
                return -1;
            }
            now = past.removeLast();
            return past.size();
        }

        long r;

        int draw(int n) {
            r = (r * 1103515245L + 12345L) & 0xffffffffL;
            return (int) (r / 65536 % n);
        }

        int years(int seed, int n) {
            if (n < 1 || n > 20) {
                return -1;
            }
            Plan before = now;
            r = seed & 0xffffffffL;
            int done = 0;
            for (int i = 0; i < n; i++) {
                int what = draw(3);
                int p = what == 1 ? draw(11) - 5 : draw(6);
                int q = what == 1 ? draw(11) - 5 : what == 0 ? draw(51) : 0;
                int answer = what == 0 ? doBecomes(p, q) : what == 1 ? doAdds(p, q, draw(41)) : doDrops(p);
                done += answer >= 0 ? 1 : 0;
            }
            int wholes = now.wholes().size();
            tell(now.told.size(), done);
            now = before;
            return wholes;
        }

        boolean keep(int i) {
            if (i != 0 && i != 1) {
                return false;
            }
            kept[i] = now;
            return true;
        }

        boolean again(int i) {
            if (i != 0 && i != 1 || kept[i] == null) {
                return false;
            }
            now = kept[i];
            past.clear();
            return true;
        }

        int count(int what) {
            return switch (what) {
                case 0 -> now.told.size();
                case 1 -> now.cuts.size();
                case 2 -> (int) now.cuts.stream().filter(this::proves).count();
                case 3 -> past.size();
                case 4 -> row.size();
                case 5 -> text.length();
                case 6 -> (int) now.wholes().stream().filter(p -> now.cuts.stream().anyMatch(c ->
                        c.a.times(F.of(p[0])).plus(c.b.times(F.of(p[1]))).compareTo(c.c) > 0)).count();
                default -> -1;
            };
        }

        long told(int i) {
            if (i < 0 || i >= row.size()) {
                throw new NoSuchElementException();
            }
            return row.get(i);
        }
    }

    // ---- the runs

    private static final class Run {
        private static final int[] ODD = {-1, 7, 13, -2, 51, -51, 80, Integer.MAX_VALUE, Integer.MIN_VALUE, 715827883};
        private final int run;
        private final Random random;
        private final SplitSlices real = new SplitSlices();
        private final Model model = new Model();
        private final List<String> log = new ArrayList<>();

        Run(int run) {
            this.run = run;
            this.random = new Random(run * 77L + 5);
        }

        void due(String call, long got, long want) {
            calls++;
            log.add(call + "=" + got);
            if (got != want) {
                wrong++;
                int from = Math.max(0, log.size() - 30);
                System.out.println("run " + run + ": " + call + " answered " + got + ", due is " + want + "; " + log.subList(from, log.size()));
            }
        }

        /** From low to high, now and then another number. */
        int pick(int low, int high) {
            return random.nextInt(40) == 0 ? odd(low, high) : low + random.nextInt(high - low + 1);
        }

        int odd(int low, int high) {
            int kind = random.nextInt(3);
            return kind == 0 ? low - 1 : kind == 1 ? high + 1 : ODD[random.nextInt(ODD.length)];
        }

        void go() {
            int before = wrong;
            for (int i = 0; i < 100 && wrong == before; i++) {
                one(random.nextInt(40));
                compareRow();
            }
        }

        void compareRow() {
            due("count(4)", real.count(4), model.count(4));
            for (int i = -1; i <= model.row.size(); i++) {
                due("told(" + i + ")", toldOf(i), model.row.size() > i && i >= 0 ? model.told(i) : Long.MIN_VALUE);
            }
            for (int what : new int[] {0, 1, 2, 3, 5, 6}) {
                due("count(" + what + ")", real.count(what), model.count(what));
            }
            for (int k = -1; k <= model.now.told.size() + 4; k++) {
                for (int what = -1; what <= 3; what++) {
                    due("row(" + k + ", " + what + ")", rowOf(k, what), modelRowOf(k, what));
                }
            }
        }

        long toldOf(int i) {
            try {
                return real.told(i);
            } catch (NoSuchElementException e) {
                return Long.MIN_VALUE;
            }
        }

        long rowOf(int k, int what) {
            try {
                return real.row(k, what);
            } catch (NoSuchElementException e) {
                return Long.MIN_VALUE;
            }
        }

        long modelRowOf(int k, int what) {
            try {
                return model.row(k, what);
            } catch (NoSuchElementException e) {
                return Long.MIN_VALUE;
            }
        }

        void type(String text) {
            for (int i = 0; i < text.length(); i += 4) {
                int v = 0;
                for (int j = i; j < i + 4; j++) {
                    v = v << 8 | (j < text.length() ? text.charAt(j) : random.nextInt(256));
                }
                due("sign(" + v + ")", real.sign(v), model.sign(v));
            }
            due("end(" + text.length() + ")", real.end(text.length()) ? 1 : 0, model.end(text.length()) ? 1 : 0);
        }

        String spoil(String text) {
            int kind = random.nextInt(5);
            int at = text.isEmpty() ? 0 : random.nextInt(text.length());
            char c = "+-05xy<;69bdsc \u00ff\u0000".charAt(random.nextInt(17));
            if (kind == 0) {
                return text.substring(0, at);
            }
            if (kind == 1) {
                return text.substring(0, at) + c + text.substring(at);
            }
            if (kind == 2 && !text.isEmpty()) {
                return text.substring(0, at) + c + text.substring(at + 1);
            }
            return text + (kind == 3 ? c : "");
        }

        String rowsText() {
            StringBuilder s = new StringBuilder();
            int n = random.nextInt(20) == 0 ? 7 : random.nextInt(7);
            for (int i = 0; i < n; i++) {
                s.append(i > 0 ? ";" : "");
                s.append(random.nextBoolean() ? '+' : '-').append(random.nextInt(6)).append('x');
                s.append(random.nextBoolean() ? '+' : '-').append(random.nextInt(6)).append('y').append('<');
                int kind = random.nextInt(12);
                s.append(kind == 0 ? "-" : "").append(kind < 2 ? random.nextInt(12) : random.nextInt(random.nextInt(8) == 0 ? 100 : 31));
            }
            return s.toString();
        }

        String dayText() {
            StringBuilder s = new StringBuilder();
            int n = random.nextInt(6);
            for (int i = 0; i < n; i++) {
                switch (random.nextInt(8)) {
                    case 0, 1, 2 -> s.append('b').append(random.nextInt(5)).append(random.nextInt(6) == 0 ? '-' : '+')
                            .append(random.nextInt(random.nextInt(6) == 0 ? 10 : 6)).append(random.nextInt(10));
                    case 3 -> s.append('d').append(random.nextInt(4));
                    case 4, 5, 6 -> s.append('s').append(random.nextInt(random.nextInt(9) == 0 ? 10 : 2)).append(random.nextInt(2)).append(random.nextInt(7));
                    default -> s.append('c');
                }
            }
            return s.toString();
        }

        void one(int kind) {
            int d = pick(1, 12);
            int x = d > 0 && d < 13 ? pick(0, 6 * d) : pick(0, 6);
            int y = d > 0 && d < 13 ? pick(0, 6 * d) : pick(0, 6);
            String p = x + ", " + y + ", " + d + ")";
            switch (kind) {
                case 0, 1 -> {
                    if (model.text.isEmpty()) {
                        type(random.nextInt(4) == 0 ? spoil(rowsText()) : rowsText());
                        due("rows()", real.rows(), model.rows());
                    }
                }
                case 2 -> {
                    if (model.text.isEmpty()) {
                        type(random.nextInt(5) == 0 ? spoil(dayText()) : dayText());
                        due("day()", real.day(), model.day());
                    }
                }
                case 3 -> {
                    int k = pick(0, 5);
                    int c = random.nextInt(3) == 0 && k >= 0 && k < model.now.told.size() ? model.now.told.get(k).c : pick(-5, 50);
                    due("becomes(" + k + ", " + c + ")", real.becomes(k, c), model.noted(model.now, model.doBecomes(k, c)));
                }
                case 4, 5 -> {
                    int a = pick(-5, 5);
                    int b = pick(-5, 5);
                    int c = pick(-5, 50);
                    due("adds(" + a + ", " + b + ", " + c + ")", real.adds(a, b, c), model.noted(model.now, model.doAdds(a, b, c)));
                }
                case 6 -> {
                    int k = pick(0, 5);
                    due("drops(" + k + ")", real.drops(k), model.noted(model.now, model.doDrops(k)));
                }
                case 7, 8, 9 -> {
                    int way = pick(0, 1);
                    int side = pick(0, 1);
                    int k = pick(0, 5);
                    due("stores(" + way + ", " + side + ", " + k + ")", real.stores(way, side, k), model.noted(model.now, model.doStores(way, side, k)));
                }
                case 10 -> {
                    if (random.nextInt(4) == 0) {
                        due("clears()", real.clears(), model.noted(model.now, model.doClears()));
                    }
                }
                case 11, 12, 13 -> {
                    int r = pick(0, 2);
                    int way = pick(0, 1);
                    int k = pick(0, 6);
                    due("slice(" + r + ", " + way + ", " + k + ")", real.slice(r, way, k), model.slice(r, way, k));
                }
                case 14, 15, 16 -> {
                    int r = pick(0, 3);
                    due("inside(" + r + ", " + p, real.inside(r, x, y, d), model.inside(r, x, y, d));
                }
                case 17 -> due("round(" + p, real.round(x, y, d), model.round(x, y, d));
                case 18 -> {
                    int r = pick(0, 2);
                    due("splits(" + r + ", " + p, real.splits(r, x, y, d), model.splits(r, x, y, d));
                }
                case 19 -> {
                    int r = pick(0, 2);
                    due("slices(" + r + ")", real.slices(r), model.slices(r));
                }
                case 20, 21 -> {
                    int way = pick(0, 1);
                    int side = pick(0, 1);
                    int k = pick(0, 5);
                    due("cut(" + way + ", " + side + ", " + k + ")", real.cut(way, side, k), model.cut(way, side, k));
                }
                case 22 -> {
                    int i = pick(0, 7);
                    due("checks(" + i + ")", real.checks(i), model.checks(i));
                }
                case 23 -> {
                    int i = pick(0, 7);
                    due("stronger(" + i + ")", real.stronger(i), model.stronger(i));
                }
                case 24 -> due("breaks(" + p, real.breaks(x, y, d), model.breaks(x, y, d));
                case 25 -> due("wholes()", real.wholes(), model.wholes());
                case 26 -> due("hull()", real.hull(), model.hull());
                case 27 -> due("nearest(" + p, real.nearest(x, y, d), model.nearest(x, y, d));
                case 28, 29 -> {
                    int a = pick(-9, 9);
                    int b = pick(-9, 9);
                    int what = pick(0, 3);
                    due("most(" + a + ", " + b + ", " + what + ")", real.most(a, b, what), model.most(a, b, what));
                }
                case 30 -> {
                    int a = pick(-9, 9);
                    int b = pick(-9, 9);
                    due("gains(" + a + ", " + b + ")", real.gains(a, b), model.gains(a, b));
                }
                case 31 -> {
                    int a = pick(-5, 5);
                    int b = pick(-5, 5);
                    int c = pick(-50, 50);
                    due("loses(" + a + ", " + b + ", " + c + ")", real.loses(a, b, c), model.loses(a, b, c));
                }
                case 32 -> due("tightest()", real.tightest(), model.tightest());
                case 33, 34 -> due("undo()", real.undo(), model.undo());
                case 35 -> {
                    int seed = random.nextInt();
                    int n = pick(1, 20);
                    due("years(" + seed + ", " + n + ")", real.years(seed, n), model.years(seed, n));
                }
                case 36 -> {
                    int i = pick(0, 1);
                    due("keep(" + i + ")", real.keep(i) ? 1 : 0, model.keep(i) ? 1 : 0);
                }
                case 37 -> {
                    int i = pick(0, 1);
                    if (random.nextInt(3) == 0) {
                        due("again(" + i + ")", real.again(i) ? 1 : 0, model.again(i) ? 1 : 0);
                    }
                }
                case 38 -> {
                    int k = pick(0, 3);
                    int n = pick(0, 6);
                    int f = random.nextBoolean() ? random.nextInt() : pick(0, 50);
                    int step = random.nextBoolean() ? random.nextInt() : pick(-5, 5);
                    if (random.nextInt(3) == 0) {
                        due("sheet(" + k + ", " + n + ", " + f + ", " + step + ")", real.sheet(k, n, f, step), model.sheet(k, n, f, step));
                    }
                }
                default -> texts();
            }
        }

        /** Signs that no one reads yet, up to where there is no room, then an end somewhere. */
        void texts() {
            int many = random.nextInt(22);
            for (int i = 0; i < many; i++) {
                int v = random.nextInt();
                due("sign(" + v + ")", real.sign(v), model.sign(v));
            }
            int n = pick(0, 80);
            due("end(" + n + ")", real.end(n) ? 1 : 0, model.end(n) ? 1 : 0);
            if (random.nextBoolean()) {
                due("rows()", real.rows(), model.rows());
            } else {
                due("day()", real.day(), model.day());
            }
            due("signs", real.count(5), 0);
        }
    }
}
