import java.util.Random;

/** Runs of random calls against a slow model that lets whole worlds pass, day by day in the document's order. */
public final class ModelTest {
    private static final int BAD = -1002, OTHER = -1003, NOTHING = -1004, STUCK = -1005, FULL = -1006;
    private static final int[] TOUGH = {3, 5, 4, 5, 0, 99};

    private static final class World implements Cloneable {
        int n = 16, wind = 2, day = 0, answered = 0, seed = 1;
        int[] cur = new int[30];
        int[][] b = new int[0][];   // kind, a, cell, for, how
        int[][] w = new int[0][];   // at, pace, way
        World() { for (int i = 0; i < 30; i++) cur[i] = 3; }
        World twin() {
            try {
                World o = (World) clone();
                o.cur = cur.clone();
                o.b = new int[b.length][];
                for (int i = 0; i < b.length; i++) o.b[i] = b[i].clone();
                o.w = new int[w.length][];
                for (int i = 0; i < w.length; i++) o.w[i] = w[i].clone();
                return o;
            } catch (CloneNotSupportedException e) { throw new IllegalStateException(e); }
        }
        static int tough(int[] x) { return x[0] == 4 ? 4 + x[1] / 3 : TOUGH[x[0]]; }
        int goes(int[] x) {
            int c = cur[x[2]] - 3, v = wind - 2;
            if (x[0] == 0 || x[0] == 5) return c + v;
            if (x[0] == 1) return c;
            if (x[0] == 3) return day % 2 == 0 ? c : 0;
            if (x[0] == 2) return c + 2 * v;
            return c + 2 * v + x[1] % 3 - 1;
        }
        World pass(int days) {
            for (int d = 0; d < days; d++) {
                for (int[] x : b) {
                    if (x[4] != 0) continue;
                    int g = goes(x);
                    if (g > tough(x) || g < -tough(x)) { x[4] = 2; continue; }
                    for (; g > 0; g--) if (x[2] < n - 1) x[2]++;
                    for (; g < 0; g++) if (x[2] > 0) x[2]--;
                }
                for (int[] x : w) for (int s = 0; s < x[1]; s++) {
                    int to = x[2] == 0 ? x[0] + 1 : x[0] - 1;
                    if (to < 0 || to >= n) { x[2] = 1 - x[2]; to = x[2] == 0 ? x[0] + 1 : x[0] - 1; }
                    x[0] = to;
                }
                for (int[] x : b) if (x[4] == 0 && x[3] >= 0 && w[x[3]][0] == x[2]) { x[4] = 1; answered++; }
                if (day < 999) day++;
            }
            return this;
        }
        World nobody(int i) { World o = twin(); o.b[i][3] = -1; return o; }
        int draw(int below) { seed = seed * 1103515245 + 12345; return (int) ((seed & 0xFFFFFFFFL) >> 16) % below; }
        void add(int... x) { b = java.util.Arrays.copyOf(b, b.length + 1); b[b.length - 1] = x; }
        void addWalker(int... x) { w = java.util.Arrays.copyOf(w, w.length + 1); w[w.length - 1] = x; }
        int when(int i) {
            World o = twin();
            for (int d = 0; d <= 60; d++, o.pass(1)) if (o.b[i][4] == 1) return d;
            return -1;
        }
        int meets(int i, int k) {
            World o = nobody(i);
            for (int d = 1; d <= 60; d++) { o.pass(1); if (o.b[i][4] == 0 && o.b[i][2] == o.w[k][0]) return d; }
            return -1;
        }
        int found(int days) { return twin().pass(days).answered - answered; }
        int odds(int i, int t, int how) {
            if (t == 0) return b[i][4] == how ? 1 : 0;
            int sum = 0;
            for (int v = 0; v < 5; v++) { World o = twin(); o.wind = v; sum += o.pass(1).odds(i, t - 1, how); }
            return sum;
        }
    }

    private World w = new World();
    private World kept;
    private String tape = "";
    private final int[] what = new int[8];
    private final long[][] rows = new long[8][];
    private final int[] refused = new int[5];

    private ModelTest() { java.util.Arrays.fill(what, -1); }

    private int no(int number) { refused[BAD - number]++; return number; }
    private static boolean in(long v, long lo, long hi) { return lo <= v && v <= hi; }
    private boolean bottle(int i) { return in(i, 0, w.b.length - 1); }
    private boolean man(int i) { return in(i, 0, w.w.length - 1); }
    private boolean cell(int i) { return in(i, 0, w.n - 1); }
    private static boolean shelf(int s) { return in(s, 0, 7); }
    private static boolean under(int k, int of) {
        return k == of || of == 0 || of == 1 && k == 3 || of == 2 && k == 4;
    }
    private static int count(int bits) { return Integer.bitCount(bits); }

    // the best of all ways to pair, told as {pairs, days, whom ...}
    private int[] best;
    private void pair(int t, int i, int taken, int[] so) {
        if (i == w.b.length) {
            boolean better = best == null || so[0] > best[0] || so[0] == best[0] && so[1] < best[1];
            if (!better && so[0] == best[0] && so[1] == best[1]) {
                for (int k = 2; k < so.length && !better; k++) {
                    int mine = so[k] < 0 ? 99 : so[k], its = best[k] < 0 ? 99 : best[k];
                    if (mine > its) break;
                    better = mine < its;
                }
            }
            if (better) best = so.clone();
            return;
        }
        so[2 + i] = -1;
        pair(t, i + 1, taken, so);
        for (int k = 0; k < w.w.length; k++) {
            int m = table[i][k];
            if ((taken >> k & 1) != 0 || m < 0 || m > t) continue;
            so[0]++; so[1] += m; so[2 + i] = k;
            pair(t, i + 1, taken | 1 << k, so);
            so[0]--; so[1] -= m; so[2 + i] = -1;
        }
    }
    private int[][] table;

    private int coast() {
        String t = tape;
        tape = "";
        World o = w.twin();
        int at = 0, many = 0;
        int[] place = {0};
        while (true) {
            String word = token(t, place);
            int start = place[0] - word.length();
            String names = "cells walker bottle current wind day";
            int which = -1, k = 0;
            for (String name : names.split(" ")) { if (name.equals(word)) which = k; k++; }
            if (which < 0 || which == 1 && o.w.length == 6 || which == 2 && o.b.length == 8) { no(BAD); return -2000 - start; }
            int[][] lo = {{o.n}, {0, 0, 0}, {0, 0, 0, 0}, {0, 0}, {0}, {0}};
            int[][] hi = {{30}, {o.n - 1, 3, 1}, {5, 9, o.n - 1, o.w.length - 1}, {o.n - 1, 6}, {4}, {999}};
            int[] v = new int[hi[which].length];
            for (int i = 0; i < v.length; i++) {
                String number = token(t, place);
                boolean fine = number.matches("[0-9]{1,3}");
                if (fine) v[i] = Integer.parseInt(number);
                if (!fine || !in(v[i], lo[which][i], hi[which][i])) { no(BAD); return -2000 - (place[0] - number.length()); }
            }
            switch (which) {
                case 0: o.n = v[0]; break;
                case 1: o.addWalker(v); break;
                case 2: o.add(v[0], v[1], v[2], v[3], 0); break;
                case 3: o.cur[v[0]] = v[1]; break;
                case 4: o.wind = v[0]; break;
                default: o.day = v[0];
            }
            many++;
            String sign = token(t, place);
            if (sign.isEmpty()) { w = o; return many; }
            if (!sign.equals(";")) { no(BAD); return -2000 - (place[0] - sign.length()); }
        }
    }
    private static String token(String t, int[] place) {
        int p = place[0];
        while (p < t.length() && t.charAt(p) == ' ') p++;
        int e = p;
        if (p < t.length()) {
            if (in(t.charAt(p), 'a', 'z')) while (e < t.length() && in(t.charAt(e), 'a', 'z')) e++;
            else if (in(t.charAt(p), '0', '9')) while (e < t.length() && in(t.charAt(e), '0', '9')) e++;
            else e++;
        }
        place[0] = e;
        return t.substring(p, e);
    }

    private long call(int op, int p, int q, int r, int s, int t, long v) {
        switch (op) {
            case 0: if (!shelf(p) || !in(q, 0, 4) || !in(r, 0, 40)) return no(BAD);
                what[p] = q; rows[p] = new long[r]; return 1;
            case 1: { if (!shelf(p)) return no(BAD);
                if (what[p] >= 10) return no(OTHER);
                if (what[p] < 0) return no(NOTHING);
                if (!in(q, 0, rows[p].length - 1)) return no(BAD);
                rows[p][q] = what[p] == 0 ? (byte) v : what[p] == 1 ? (short) v : what[p] == 2 ? (int) v : what[p] == 3 ? v : v != 0 ? 1 : 0;
                return 1; }
            case 2: { if (!shelf(p) || !shelf(q)) return no(BAD);
                if (what[p] >= 10 || what[q] >= 10 || what[p] >= 0 && what[q] >= 0 && what[p] != what[q]) return no(OTHER);
                if (what[p] < 0 || what[q] < 0) return no(NOTHING);
                if (r < 0 || s < 0 || t < 0 || (long) r + t > rows[p].length || (long) s + t > rows[q].length) return no(BAD);
                long[] old = rows[p].clone();
                for (int i = 0; i < t; i++) rows[q][s + i] = old[r + i];
                return t; }
            case 3: return shelf(p) && in(what[p], 0, 4) && in(q, 0, rows[p].length - 1) ? rows[p][q] : 0;
            case 4: return shelf(p) ? what[p] : -1;
            case 5: if (!shelf(p) || q != -1 && !bottle(q)) return no(BAD);
                what[p] = q < 0 ? -1 : 10 + q; return 1;
            case 6: if (!shelf(p) || !in(q, 0, 5)) return no(BAD);
                if (in(what[p], 0, 4)) return no(OTHER);
                if (what[p] < 0) return no(NOTHING);
                if (!under(w.b[what[p] - 10][0], q)) return no(OTHER);
                return q == 0 ? w.b[what[p] - 10][2] : w.goes(w.b[what[p] - 10]);
            case 7: { if (!in(p, w.n, 30)) return no(BAD); int old = w.n; w.n = p; return old; }
            case 8: if (!cell(p) || !in(q, 0, 3) || !in(r, 0, 1)) return no(BAD);
                if (w.w.length == 6) return no(FULL);
                w.addWalker(p, q, r); return w.w.length - 1;
            case 9: { if (!man(p) || !in(q, 0, 2) || !in(r, 0, q == 0 ? w.n - 1 : q == 1 ? 3 : 1)) return no(BAD);
                int old = w.w[p][q]; w.w[p][q] = r; return old; }
            case 10: { if (!cell(p) || !in(q, 0, 6)) return no(BAD); int old = w.cur[p]; w.cur[p] = q; return old; }
            case 11: { if (!in(p, 0, 1) || !in(q, 0, p == 0 ? 4 : 999)) return no(BAD);
                int old = p == 0 ? w.wind : w.day; if (p == 0) w.wind = q; else w.day = q; return old; }
            case 12: if (!in(p, 0, 255)) return no(BAD);
                if (tape.length() == 250) return no(FULL);
                tape += (char) p; return tape.length();
            case 13: { int old = tape.length(); tape = ""; return old; }
            case 14: return coast();
            case 15: return !bottle(p) || !in(q, 0, 5) ? no(BAD) : q == 5 ? World.tough(w.b[p]) : w.b[p][q];
            case 16: { if (!man(p) || !in(q, 0, 3)) return no(BAD);
                if (q < 3) return w.w[p][q];
                int bits = 0; for (int i = 0; i < w.b.length; i++) if (w.b[i][3] == p) bits |= 1 << i; return bits; }
            case 17: return cell(p) ? w.cur[p] : no(BAD);
            case 18: return !bottle(p) || !in(q, 0, 60) || !in(r, 0, 1) ? no(BAD) : w.twin().pass(q).b[p][r == 0 ? 2 : 4];
            case 19: return !man(p) || !in(q, 0, 60) ? no(BAD) : w.twin().pass(q).w[p][0];
            case 20: return !in(p, 0, 60) ? no(BAD) : w.found(p);
            case 21: return !bottle(p) ? no(BAD) : w.when(p);
            case 22: return !bottle(p) || !man(q) ? no(BAD) : w.meets(p, q);
            case 23: { if (!bottle(p)) return no(BAD);
                int who = -1, least = 99;
                for (int k = 0; k < w.w.length; k++) { int m = w.meets(p, k); if (m >= 0 && m < least) { least = m; who = k; } }
                return who; }
            case 24: { if (!man(p) || !man(q) || p == q) return no(BAD);
                World o = w.twin();
                for (int d = 0; d <= 60; d++, o.pass(1)) if (o.w[p][0] == o.w[q][0]) return d;
                return -1; }
            default: return more(op, p, q, r, s);
        }
    }

    private long more(int op, int p, int q, int r, int s) {
        switch (op) {
            case 25: { if (!in(p, 0, 5) || !in(q, 0, 9) || !man(r) || !in(s, 0, 1)) return no(BAD);
                int at = -1, least = -1;
                for (int c = 0; c < w.n; c++) {
                    World o = w.twin(); o.add(p, q, c, r, 0);
                    int d = o.when(o.b.length - 1);
                    if (d >= 0 && (least < 0 || d < least)) { least = d; at = c; }
                }
                return s == 0 ? at : least; }
            case 26: { if (!man(p) || !in(q, 1, 30) || !in(r, 0, 1)) return no(BAD);
                int so = -1, most = -1;
                for (int k = 0; k < 8; k++) {
                    World o = w.twin(); o.w[p][1] = k / 2; o.w[p][2] = k % 2;
                    World then = o.twin().pass(q);
                    int many = 0;
                    for (int i = 0; i < w.b.length; i++) if (w.b[i][3] == p && w.b[i][4] == 0 && then.b[i][4] == 1) many++;
                    if (many > most) { most = many; so = 10 * (k / 2) + k % 2; }
                }
                return r == 0 ? so : most; }
            case 27: { if (!shelf(p) || !in(q, 1, 40) || !bottle(r) || !in(s, 0, 1)) return no(BAD);
                if (what[p] >= 10) return no(OTHER);
                if (what[p] < 0) return no(NOTHING);
                if (rows[p].length < q) return no(BAD);
                int bits = 0;
                for (int k = 0; k < (s == 0 ? 5 : 6); k++) {
                    World o = w.nobody(r);
                    if (s == 0) o.wind = k; else o.b[r][0] = k;
                    if (!in(rows[p][0], 0, w.n - 1)) continue;
                    o.b[r][2] = (int) rows[p][0];
                    o.b[r][4] = 0;
                    boolean so = true;
                    for (int i = 1; i < q; i++) { o.pass(1); so &= o.b[r][4] != 2 && o.b[r][2] == rows[p][i]; }
                    if (so) bits |= 1 << k;
                }
                return bits; }
            case 28: { if (!bottle(p) || !in(q, 0, 30) || !cell(r)) return no(BAD);
                int bits = 0;
                for (int c = 0; c < w.n; c++) {
                    World o = w.nobody(p); o.b[p][2] = c; o.b[p][4] = 0; o.pass(q);
                    if (o.b[p][4] == 0 && o.b[p][2] == r) bits |= 1 << c;
                }
                return bits; }
            case 29: { if (!in(p, 1, 60) || q != -1 && q != -2 && !bottle(q)) return no(BAD);
                table = new int[w.b.length][w.w.length];
                for (int i = 0; i < w.b.length; i++) for (int k = 0; k < w.w.length; k++) table[i][k] = w.meets(i, k);
                best = null;
                pair(p, 0, 0, new int[2 + w.b.length]);
                return best[2 + q]; }
            case 30: { if (!bottle(p) || !in(q, 0, 1)) return no(BAD);
                int so = -1, least = -1;
                for (int c = 0; c < w.n; c++) for (int v = 0; v <= 6; v++) {
                    if (v == w.cur[c]) continue;
                    World o = w.twin(); o.cur[c] = v;
                    int d = o.when(p);
                    if (d >= 0 && (least < 0 || d < least)) { least = d; so = 10 * c + v; }
                }
                return q == 0 ? so : least; }
            case 31: { if (!bottle(p) || !in(q, 0, 4) || !in(r, 0, 1)) return no(BAD);
                long all = 1; for (int i = 0; i < q; i++) all *= 5;
                return w.odds(p, q, r + 1) * 1000000L / all; }
            case 32: { if (!bottle(p)) return no(BAD);
                int so = -1, least = -1;
                for (int v = 0; v < 5; v++) { World o = w.twin(); o.wind = v; int d = o.when(p); if (d >= 0 && (least < 0 || d < least)) { least = d; so = v; } }
                return so; }
            case 33: { if (!in(p, 0, 60) || !in(q, 0, 1)) return no(BAD);
                int so = -1, most = -1;
                for (int v = 0; v < 5; v++) { World o = w.twin(); o.wind = v; int d = o.found(p); if (d > most) { most = d; so = v; } }
                return q == 0 ? so : most; }
            case 34: { if (!in(p, 0, 3)) return no(BAD);
                int bits = 0;
                World o = w.twin().pass(60);
                for (int i = 0; i < w.b.length; i++) if (p < 3 ? w.b[i][4] == p : w.b[i][4] == 0 && o.b[i][4] == 1) bits |= 1 << i;
                return bits; }
            case 35: { if (!cell(p) || !in(q, 0, 1)) return no(BAD);
                int bits = 0;
                if (q == 0) for (int i = 0; i < w.b.length; i++) { if (w.b[i][4] == 0 && w.b[i][2] == p) bits |= 1 << i; }
                else for (int k = 0; k < w.w.length; k++) if (w.w[k][0] == p) bits |= 1 << k;
                return bits; }
            case 36: { if (!bottle(p)) return no(BAD);
                World o = w.nobody(p);
                java.util.TreeSet<Integer> been = new java.util.TreeSet<>();
                been.add(o.b[p][2]);
                for (int d = 1; d <= 60; d++) { o.pass(1); if (o.b[p][4] == 2) return -1; if (!been.add(o.b[p][2])) return d; }
                return -1; }
            case 37: { if (!bottle(p) || !in(q, 0, 1)) return no(BAD);
                World o = w.nobody(p);
                java.util.TreeSet<Integer> been = new java.util.TreeSet<>();
                for (int d = 0; d <= 60; d++, o.pass(1)) been.add(o.b[p][2]);
                return q == 0 ? been.first() : been.last(); }
            case 38: { if (!in(p, 0, 1)) return no(BAD);
                int[] many = new int[w.n];
                for (int i = 0; i < w.b.length; i++) {
                    World o = w.nobody(i);
                    java.util.TreeSet<Integer> been = new java.util.TreeSet<>();
                    for (int d = 0; d <= 60; d++, o.pass(1)) been.add(o.b[i][2]);
                    for (int c : been) many[c]++;
                }
                int at = 0;
                for (int c = 1; c < w.n; c++) if (many[c] > many[at]) at = c;
                return p == 0 ? at : many[at]; }
            case 39: { if (!man(p)) return no(BAD);
                World o = w.twin();
                for (int d = 1; d <= 60; d++) { o.pass(1); if (o.w[p][0] == w.w[p][0] && o.w[p][2] == w.w[p][2]) return d; }
                return -1; }
            case 40: { if (!bottle(p) || !bottle(q) || p == q) return no(BAD);
                World o = w.nobody(p).nobody(q);
                for (int d = 0; d <= 60; d++, o.pass(1)) if (o.b[p][4] == 0 && o.b[q][4] == 0 && o.b[p][2] == o.b[q][2]) return d;
                return -1; }
            case 41: { if (!bottle(p)) return no(BAD);
                World o = w.twin();
                for (int d = 0; d <= 60; d++, o.pass(1)) if (o.b[p][4] == 2) return d;
                return -1; }
            case 42: { if (!man(p)) return no(BAD);
                World o = w.twin();
                for (int d = 1; d <= 60; d++) {
                    o.pass(1);
                    for (int i = 0; i < w.b.length; i++) if (w.b[i][3] == p && w.b[i][4] == 0 && o.b[i][4] == 1) return i;
                }
                return -1; }
            case 43: { if (!in(p, 0, 5) || !in(q, 0, 9) || !cell(r)) return no(BAD);
                World o = w.twin(); o.add(p, q, r, -1, 0); o.pass(1);
                int[] x = o.b[o.b.length - 1];
                return x[4] == 2 ? -1 : x[2]; }
            case 44: { if (!in(p, 0, 5) || !in(q, 0, 9)) return no(BAD);
                int bits = 0;
                for (int c = 0; c < w.n; c++) { World o = w.twin(); o.add(p, q, c, -1, 0); o.pass(1); if (o.b[o.b.length - 1][2] == c) bits |= 1 << c; }
                return bits; }
            case 45: { World o = w.twin().pass(60); int bits = 0;
                for (int i = 0; i < w.b.length; i++) if (o.b[i][4] == 0) bits |= 1 << i;
                return bits; }
            case 46: { if (!in(p, 0, 5)) return no(BAD); int many = 0; for (int[] x : w.b) if (x[0] == p) many++; return many; }
            case 47: { if (!shelf(p) || !in(q, 0, 40) || !bottle(r)) return no(BAD);
                if (what[p] >= 10) return no(OTHER);
                if (what[p] < 0) return no(NOTHING);
                if (rows[p].length < q) return no(BAD);
                World o = w.twin();
                for (int i = 0; i < q; i++) { o.pass(1); if (o.b[r][2] != rows[p][i]) return i; }
                return -1; }
            default: return last(op, p, q, r, s);
        }
    }

    private long last(int op, int p, int q, int r, int s) {
        switch (op) {
            case 48: if (!in(p, 0, 5) || !in(q, 0, 9) || !cell(r) || !man(s)) return no(BAD);
                if (w.b.length == 8) return no(FULL);
                w.add(p, q, r, s, 0); return w.b.length - 1;
            case 49: if (!in(p, 1, 60)) return no(BAD); return w.pass(p).answered;
            case 50: { if (!in(p, 1, 60)) return no(BAD);
                if (w.b.length == 0) return no(STUCK);
                int before = w.answered;
                for (int i = 0; i < p; i++) {
                    w.wind = w.draw(5);
                    int[] x = w.b[w.draw(w.b.length)];
                    int c = w.draw(w.n);
                    if (x[4] != 0) { x[4] = 0; x[2] = c; }
                    w.pass(1);
                }
                return w.answered - before; }
            case 51: { int old = w.seed; w.seed = p; return old; }
            case 52: kept = w.twin(); return 1;
            case 53: if (kept == null) return no(STUCK);
                w = kept.twin();
                for (int i = 0; i < 8; i++) if (what[i] >= 10 && what[i] - 10 >= w.b.length) what[i] = -1;
                return 1;
            default: {
                int shelves = 0, afloat = 0;
                for (int i : what) if (i >= 0) shelves++;
                for (int[] x : w.b) if (x[4] == 0) afloat++;
                int[] all = {w.b.length, w.w.length, w.n, w.wind, w.day, w.answered, afloat, tape.length(), w.seed, shelves};
                return in(p, 0, 9) ? all[p] : in(p, 12, 16) ? refused[p - 12] : -1; }
        }
    }

    private static long real(AddressedToYou x, int op, int p, int q, int r, int s, int t, long v) {
        switch (op) {
            case 0: return x.row(p, q, r);
            case 1: return x.set(p, q, v);
            case 2: return x.copy(p, q, r, s, t);
            case 3: return x.element(p, q);
            case 4: return x.holds(p);
            case 5: return x.show(p, q);
            case 6: return x.says(p, q);
            case 7: return x.paves(p);
            case 8: return x.walker(p, q, r);
            case 9: return x.sends(p, q, r);
            case 10: return x.current(p, q);
            case 11: return x.tell(p, q);
            case 12: return x.feed(p);
            case 13: return x.wipe();
            case 14: return x.coast();
            case 15: return x.bottleOf(p, q);
            case 16: return x.walkerOf(p, q);
            case 17: return x.currentAt(p);
            case 18: return x.ahead(p, q, r);
            case 19: return x.walks(p, q);
            case 20: return x.found(p);
            case 21: return x.when(p);
            case 22: return x.meets(p, q);
            case 23: return x.finder(p);
            case 24: return x.two(p, q);
            case 25: return x.aim(p, q, r, s);
            case 26: return x.walk(p, q, r);
            case 27: return x.fits(p, q, r, s);
            case 28: return x.from(p, q, r);
            case 29: return x.pairs(p, q);
            case 30: return x.mended(p, q);
            case 31: return x.odds(p, q, r);
            case 32: return x.windFor(p);
            case 33: return x.bestWind(p, q);
            case 34: return x.who(p);
            case 35: return x.there(p, q);
            case 36: return x.settles(p);
            case 37: return x.reach(p, q);
            case 38: return x.busiest(p);
            case 39: return x.round(p);
            case 40: return x.join(p, q);
            case 41: return x.breaks(p);
            case 42: return x.first(p);
            case 43: return x.next(p, q, r);
            case 44: return x.stays(p, q);
            case 45: return x.strays();
            case 46: return x.ofKind(p);
            case 47: return x.judge(p, q, r);
            case 48: return x.thrown(p, q, r, s);
            case 49: return x.days(p);
            case 50: return x.drawn(p);
            case 51: return x.seed(p);
            case 52: return x.image();
            case 53: return x.back();
            default: return x.status(p);
        }
    }

    // for each call: the first number that is too great for each of its arguments, mostly
    private static final int[][] BOUNDS = {
        {8, 5, 41}, {8, 40}, {8, 8, 10, 10, 12}, {8, 40}, {8}, {8, 8}, {8, 6}, {31}, {16, 4, 2}, {6, 3, 4}, {16, 7}, {2, 5}, {256}, {}, {},
        {8, 6}, {6, 4}, {16}, {8, 61, 2}, {6, 61}, {61}, {8}, {8, 6}, {8}, {6, 6}, {6, 10, 6, 2}, {6, 31, 2}, {8, 10, 8, 2}, {8, 31, 16},
        {61, 8}, {8, 2}, {8, 5, 2}, {8}, {61, 2}, {4}, {16, 2}, {8}, {8, 2}, {2}, {6}, {8, 8}, {8}, {6}, {6, 10, 16}, {6, 10}, {}, {6},
        {8, 10, 8}, {6, 10, 16, 6}, {20}, {61}, {1 << 30}, {}, {}, {18}};

    private static int argument(Random d, int bound) {
        int dice = d.nextInt(40);
        if (dice == 0) return -1;
        if (dice == 1) return bound;
        if (dice == 2) return d.nextInt(4) == 0 ? d.nextInt() : -2;
        return d.nextInt(bound);
    }

    private static final String[] PIECES = {"cells ", "walker ", "bottle ", "current ", "wind ", "day ", ";", "; ", "0 ", "1 ", "2 ", "3",
        " 15", "16 ", "999", "1000", "winds", "A", "007 ", "walker 3 1 0;", "bottle 4 5 6 0;", "current 7 1;", "wind 4;", "day 8 ;"};

    private static long runs = 0;

    private static boolean run(int number, Random d) {
        AddressedToYou x = new AddressedToYou();
        ModelTest m = new ModelTest();
        boolean rich = d.nextInt(4) != 0;
        for (int i = 0; i < 500; i++) {
            int op = d.nextInt(BOUNDS.length + 3);
            if (op >= BOUNDS.length) {
                String piece = PIECES[d.nextInt(PIECES.length)];
                for (int k = 0; k < piece.length(); k++) {
                    if (x.feed(piece.charAt(k)) != m.call(12, piece.charAt(k), 0, 0, 0, 0, 0)) return tell(number, i, "feed");
                    i++;
                }
                continue;
            }
            // fewer of the calls that end much at once, more of those that begin something
            if (rich && (op == 49 || op == 50 || op == 53 || op == 7) && d.nextInt(4) != 0) op = d.nextBoolean() ? 48 : 8;
            int[] a = new int[5];
            for (int k = 0; k < BOUNDS[op].length; k++) a[k] = argument(d, BOUNDS[op][k]);
            if (op == 29 && d.nextBoolean()) a[1] = -1 - d.nextInt(2);
            if (op == 49 && rich) a[0] = d.nextInt(3);
            if (op == 11 && a[0] == 1) a[1] = d.nextInt(1002);
            long v = d.nextInt(4) != 0 ? d.nextInt(16) : d.nextLong();
            if ((op == 27 || op == 47) && d.nextInt(4) != 0) drift(x, m, d, a);
            runs++;
            long want = m.call(op, a[0], a[1], a[2], a[3], a[4], v);
            long got = real(x, op, a[0], a[1], a[2], a[3], a[4], v);
            if (got != want) return tell(number, i, op + " " + java.util.Arrays.toString(a) + " " + v + " answered " + got + ", due is " + want);
            for (int k = 0; k <= 16; k++) {
                if (x.status(k) != m.last(99, k, 0, 0, 0)) return tell(number, i, "status " + k + " behind " + op);
            }
        }
        return true;
    }

    /** Writes a row that could be so into a shelf of both, for fits and judge. */
    private static void drift(AddressedToYou x, ModelTest m, Random d, int[] a) {
        if (!m.bottle(a[2]) || !in(a[0], 0, 7) || !in(a[1], 1, 40)) return;
        World o = d.nextBoolean() ? m.w.twin() : m.w.nobody(a[2]);
        if (d.nextBoolean()) o.wind = d.nextInt(5);
        if (d.nextBoolean()) o.pass(1);
        x.row(a[0], 2, a[1]);
        m.call(0, a[0], 2, a[1], 0, 0, 0);
        for (int i = 0; i < a[1]; i++, o.pass(1)) {
            x.set(a[0], i, o.b[a[2]][2]);
            m.call(1, a[0], i, 0, 0, 0, o.b[a[2]][2]);
        }
    }

    private static int hunted = 0;

    private static World anyWorld(Random d) {
        World o = new World();
        o.n = 16 + d.nextInt(15);
        o.day = d.nextInt(3) == 0 ? 930 + d.nextInt(70) : d.nextInt(60);
        o.wind = d.nextInt(5);
        for (int c = 0; c < 30; c++) o.cur[c] = d.nextInt(3) == 0 && c < o.n ? d.nextInt(7) : 3;
        for (int k = 0; k < 3; k++) o.addWalker(d.nextInt(o.n), d.nextInt(4), d.nextInt(2));
        for (int i = 0; i < 3; i++) o.add(d.nextInt(6), d.nextInt(10), d.nextInt(o.n), d.nextInt(3), 0);
        return o;
    }

    private static AddressedToYou built(World o) {
        AddressedToYou x = new AddressedToYou();
        x.paves(o.n);
        for (int c = 0; c < o.n; c++) x.current(c, o.cur[c]);
        x.tell(0, o.wind);
        x.tell(1, o.day);
        for (int[] k : o.w) x.walker(k[0], k[1], k[2]);
        for (int[] b : o.b) x.thrown(b[0], b[1], b[2], b[3]);
        return x;
    }

    /** Whether something comes for the first time behind 59 to 61 days. */
    private static boolean isLate(World o) {
        World told = o.twin(), free = o.twin();
        for (int[] b : free.b) b[3] = -1;
        int when = 0, meets = 0, two = 0, join = 0;
        for (int day = 1; day <= 61; day++) {
            told.pass(1);
            free.pass(1);
            if (when == 0 && told.b[0][4] == 1) when = day;
            if (meets == 0 && free.b[0][4] == 0 && free.b[0][2] == free.w[0][0]) meets = day;
            if (two == 0 && free.w[0][0] == free.w[1][0]) two = day;
            if (join == 0 && free.b[0][4] == 0 && free.b[1][4] == 0 && free.b[0][2] == free.b[1][2]) join = day;
            if (day == 30 && when > 0 && meets > 0 && two > 0 && join > 0) return false;
        }
        return when >= 59 || meets >= 59 || two >= 59 || join >= 59;
    }

    private static final int[][] LATE = {{18, 0, 60, 0}, {18, 0, 59, 1}, {19, 0, 60}, {20, 60}, {20, 59}, {21, 0}, {21, 1}, {22, 0, 0},
        {23, 0}, {24, 0, 1}, {25, 3, 0, 0, 0}, {25, 3, 0, 0, 1}, {25, 0, 0, 0, 1}, {29, 60, -2}, {29, 59, -1}, {29, 60, 0}, {30, 0, 0}, {30, 0, 1},
        {32, 0}, {33, 60, 0}, {33, 60, 1}, {34, 3}, {36, 0}, {37, 0, 0}, {37, 0, 1}, {38, 0}, {39, 0}, {40, 0, 1}, {41, 0}, {42, 0}, {45}, {49, 60}, {34, 1}};

    /** Worlds in which something comes just within 60 days, or just not. */
    private static boolean hunt(int number, Random d) {
        World o = anyWorld(d);
        if (!isLate(o)) return true;
        hunted++;
        AddressedToYou x = built(o);
        ModelTest m = new ModelTest();
        m.w = o;
        for (int[] call : LATE) {
            int[] a = java.util.Arrays.copyOf(call, 6);
            long want = m.call(a[0], a[1], a[2], a[3], a[4], 0, 0);
            long got = real(x, a[0], a[1], a[2], a[3], a[4], 0, 0);
            if (got != want) return tell(number, 0, "late: " + java.util.Arrays.toString(call) + " answered " + got + ", due is " + want);
        }
        return true;
    }

    private static boolean tell(int number, int i, String what) {
        System.out.println("run " + number + ", call " + i + ": " + what);
        return false;
    }

    public static void main(String[] args) {
        int many = args.length > 0 ? Integer.parseInt(args[0]) : 150;
        int wrong = 0;
        for (int i = 0; i < many && wrong < 5; i++) if (!run(i, new Random(1000 + i))) wrong++;
        for (int i = 0; i < 4000 * many && wrong < 5; i++) if (!hunt(i, new Random(7000000 + i))) wrong++;
        System.out.println(hunted + " late worlds, " + runs + " calls, " + wrong + " runs wrong");
        if (wrong != 0) System.exit(1);
    }
}
