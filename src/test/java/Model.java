import java.util.ArrayDeque;
import java.util.ArrayList;
import java.util.Arrays;
import java.util.Deque;
import java.util.HashMap;
import java.util.List;
import java.util.Map;
import java.util.regex.Matcher;
import java.util.regex.Pattern;

/**
 * The document once more, in the plainest form: every way, round and question is tried, every state is copied.
 * It shares nothing with the class under test, so that one mistake has to be made twice to stay unseen.
 */
final class Model {
    private static final int NONE = -1, BAD = -2, NO = -3, FULL = -4;

    /** All that an image keeps. */
    private static final class State {
        List<int[]> places = new ArrayList<>();
        List<int[]> crows = new ArrayList<>();
        List<int[]> deeds = new ArrayList<>();
        List<int[]> notes = new ArrayList<>();
        List<int[]> marks = new ArrayList<>();
        Deque<State> undos = new ArrayDeque<>();
        int hour;

        State copy(boolean withUndos) {
            State s = new State();
            s.places = deep(places);
            s.crows = deep(crows);
            s.deeds = deep(deeds);
            s.notes = deep(notes);
            s.marks = deep(marks);
            s.hour = hour;
            if (withUndos) {
                for (State u : undos) {
                    s.undos.addLast(u.copy(false));
                }
            }
            return s;
        }

        private static List<int[]> deep(List<int[]> rows) {
            List<int[]> copy = new ArrayList<>();
            for (int[] row : rows) {
                copy.add(row.clone());
            }
            return copy;
        }
    }

    private State s = new State();
    private final State[] images = new State[2];
    private String text = "";
    private int above = 0;
    private int below = 1;
    private final int[] refused = new int[3];

    private int bad() {
        refused[0]++;
        return BAD;
    }

    private int no() {
        refused[1]++;
        return NO;
    }

    private int full() {
        refused[2]++;
        return FULL;
    }

    private static boolean in(int v, int low, int high) {
        return low <= v && v <= high;
    }

    private boolean crowIs(int c) {
        return in(c, 0, s.crows.size() - 1);
    }

    private boolean placeIs(int p) {
        return in(p, 0, s.places.size() - 1);
    }

    // ---- measures

    static int makes(int kind, int d, int t, int n) {
        if (kind == 0) {
            return 10 * d;
        }
        if (kind == 1) {
            return makes(0, d, t, n) + (t < 12 ? 0 : 5);
        }
        if (kind == 2) {
            return makes(0, d, t, n) + 3 * (n > 9 ? 9 : n);
        }
        if (kind == 3) {
            return n < 3 ? makes(2, d, t, n) : 2 * makes(2, d, t, n);
        }
        if (kind == 4) {
            return makes(0, d, t, n) - d;
        }
        return Math.max(1, makes(4, d, t, n));
    }

    static int farTo(int kind, int m, int t) {
        if (kind == 0) {
            return m;
        }
        if (kind == 1) {
            return Math.max(1, farTo(0, m, t) - 7);
        }
        if (kind == 2) {
            return farTo(0, m, t) + 4 + t % 3;
        }
        if (kind == 3) {
            return (int) Math.floor(farTo(2, m, t) * 1.25);
        }
        if (kind == 4) {
            return t % 2 == 0 ? (int) Math.ceil(farTo(1, m, t) / 2.0) : farTo(1, m, t);
        }
        return Math.max(10, farTo(0, m, t) - farTo(0, m, t) % 10);
    }

    private static int straightOf(State s, int a, int b) {
        int[] p = s.places.get(a);
        int[] q = s.places.get(b);
        return Math.abs(p[1] - q[1]) + Math.abs(p[2] - q[2]);
    }

    private static int farOf(State s, int c, int a, int b, int t) {
        if (a == b) {
            return 0;
        }
        int[] crow = s.crows.get(c);
        return farTo(s.places.get(b)[0], makes(crow[0], straightOf(s, a, b), t, crow[2]), t);
    }

    private int farNow(int c, int a, int b) {
        return farOf(s, c, a, b, s.hour % 24);
    }

    // ---- a country

    int country() {
        int n = s.places.size();
        s = new State();
        return n;
    }

    int place(int kind, int x, int y) {
        if (!in(kind, 0, 5) || !in(x, 0, 9) || !in(y, 0, 9)) {
            return bad();
        }
        if (s.places.size() == 7) {
            return full();
        }
        s.places.add(new int[] {kind, x, y});
        s.undos.clear();
        return s.places.size() - 1;
    }

    int crow(int kind, int p) {
        if (!in(kind, 0, 5) || !placeIs(p)) {
            return bad();
        }
        if (s.crows.size() == 3) {
            return full();
        }
        s.crows.add(new int[] {kind, p, 0});
        s.undos.clear();
        return s.crows.size() - 1;
    }

    int type(int c) {
        if (!in(c, 0, 127)) {
            return bad();
        }
        if (text.length() == 150) {
            return full();
        }
        text += (char) c;
        return text.length();
    }

    int clear() {
        int n = text.length();
        text = "";
        return n;
    }

    private static final Pattern TOKEN = Pattern.compile("[a-z]+|[0-9]+|[^ ]", Pattern.DOTALL);

    int read() {
        List<String> tokens = new ArrayList<>();
        List<Integer> starts = new ArrayList<>();
        Matcher m = TOKEN.matcher(text);
        while (m.find()) {
            tokens.add(m.group());
            starts.add(m.start());
        }
        starts.add(text.length());
        Map<String, String> forms = new HashMap<>();
        forms.put("place", "kxy");
        forms.put("crow", "kp");
        forms.put("fly", "cq");
        forms.put("rest", "c");
        forms.put("hours", "h");
        forms.put("country", "");
        State d = new State();
        int items = 0;
        int i = 0;
        while (i < tokens.size()) {
            String word = tokens.get(i);
            boolean isCountry = word.equals("country");
            if (!forms.containsKey(word) || isCountry != (items == 0) || word.equals("place") && d.places.size() == 7
                    || word.equals("crow") && d.crows.size() == 3) {
                return -10 - starts.get(i);
            }
            String form = forms.get(word);
            int[] v = new int[form.length()];
            for (int k = 0; k < form.length(); k++) {
                i++;
                if (i >= tokens.size() || !numberFits(d, tokens.get(i), form.charAt(k), v, k)) {
                    return -10 - starts.get(i);
                }
            }
            i++;
            if (i >= tokens.size() || !tokens.get(i).equals(";")) {
                return -10 - starts.get(i);
            }
            carryOut(d, word, v);
            items++;
            i++;
        }
        if (items == 0) {
            return -10 - text.length();
        }
        s = d;
        return items;
    }

    private static boolean numberFits(State d, String token, char what, int[] v, int k) {
        if (!token.matches("[0-9]{1,2}")) {
            return false;
        }
        v[k] = Integer.parseInt(token);
        switch (what) {
            case 'k': return v[k] <= 5;
            case 'x':
            case 'y': return v[k] <= 9;
            case 'p': return v[k] < d.places.size();
            case 'c': return v[k] < d.crows.size();
            case 'q': return v[k] < d.places.size() && d.crows.get(v[0])[1] != v[k];
            default: return v[k] >= 1;
        }
    }

    private static void carryOut(State d, String word, int[] v) {
        if (word.equals("place")) {
            d.places.add(v);
        } else if (word.equals("crow")) {
            d.crows.add(new int[] {v[0], v[1], 0});
        } else if (word.equals("fly")) {
            flight(d, v[0], v[1]);
        } else if (word.equals("rest")) {
            d.crows.get(v[0])[2] = 0;
            d.hour += 8;
        } else if (word.equals("hours")) {
            d.hour += v[0];
        }
    }

    // ---- flights

    private static int flight(State s, int c, int p) {
        int[] crow = s.crows.get(c);
        int far = farOf(s, c, crow[1], p, s.hour % 24);
        s.deeds.add(new int[] {crow[1], p, far});
        if (s.deeds.size() == 13) {
            s.deeds.remove(0);
        }
        crow[1] = p;
        crow[2] = Math.min(99, crow[2] + 1);
        s.hour++;
        return far;
    }

    private void keepForUndo() {
        s.undos.addLast(s.copy(false));
        if (s.undos.size() == 9) {
            s.undos.removeFirst();
        }
    }

    int flies(int c, int p) {
        if (!crowIs(c) || !placeIs(p)) {
            return bad();
        }
        if (s.crows.get(c)[1] == p || s.hour == 9999) {
            return no();
        }
        keepForUndo();
        return flight(s, c, p);
    }

    int rests(int c) {
        if (!crowIs(c)) {
            return bad();
        }
        keepForUndo();
        int n = s.crows.get(c)[2];
        s.crows.get(c)[2] = 0;
        s.hour = Math.min(9999, s.hour + 8);
        return n;
    }

    int hours(int n) {
        if (!in(n, 1, 99)) {
            return bad();
        }
        keepForUndo();
        s.hour = Math.min(9999, s.hour + n);
        return s.hour;
    }

    int undo() {
        if (s.undos.isEmpty()) {
            return no();
        }
        State u = s.undos.removeLast();
        s.crows = u.crows;
        s.deeds = u.deeds;
        s.hour = u.hour;
        return s.hour;
    }

    int of(int c, int what) {
        return crowIs(c) && in(what, 0, 2) ? s.crows.get(c)[what] : bad();
    }

    int about(int p, int what) {
        return placeIs(p) && in(what, 0, 2) ? s.places.get(p)[what] : bad();
    }

    // ---- how far

    int straight(int a, int b) {
        return placeIs(a) && placeIs(b) ? straightOf(s, a, b) : bad();
    }

    int far(int c, int a, int b) {
        return crowIs(c) && placeIs(a) && placeIs(b) ? farNow(c, a, b) : bad();
    }

    private int listed(int k, int whole, List<Integer> list) {
        if (k == NONE) {
            return whole;
        }
        return k < list.size() ? list.get(k) : -5;
    }

    private int badOfList() {
        bad();
        return -10;
    }

    private List<Integer> bestTrail;
    private int bestSum;

    int way(int c, int a, int b, int k) {
        if (!crowIs(c) || !placeIs(a) || !placeIs(b) || k < NONE) {
            return badOfList();
        }
        bestTrail = null;
        allWays(c, a, b, new ArrayList<>(), 0, new boolean[7]);
        return listed(k, bestSum, bestTrail);
    }

    private void allWays(int c, int at, int b, List<Integer> trail, int sum, boolean[] seen) {
        if (at == b) {
            if (bestTrail == null || sum < bestSum || sum == bestSum && trail.size() < bestTrail.size()) {
                bestTrail = new ArrayList<>(trail);
                bestSum = sum;
            }
            return;
        }
        seen[at] = true;
        for (int p = 0; p < s.places.size(); p++) {
            if (!seen[p]) {
                trail.add(p);
                allWays(c, p, b, trail, sum + farNow(c, at, p), seen);
                trail.remove(trail.size() - 1);
            }
        }
        seen[at] = false;
    }

    int round(int c, int k) {
        if (!crowIs(c) || k < NONE) {
            return badOfList();
        }
        bestTrail = null;
        allRounds(c, 0, new ArrayList<>(), 0);
        return listed(k, bestSum, bestTrail);
    }

    private void allRounds(int c, int at, List<Integer> trail, int sum) {
        if (trail.size() == s.places.size() - 1) {
            int whole = sum + farNow(c, at, 0);
            if (bestTrail == null || whole < bestSum) {
                bestTrail = new ArrayList<>(trail);
                bestSum = whole;
            }
            return;
        }
        for (int p = 1; p < s.places.size(); p++) {
            if (!trail.contains(p)) {
                trail.add(p);
                allRounds(c, p, trail, sum + farNow(c, at, p));
                trail.remove(trail.size() - 1);
            }
        }
    }

    int clash(int c, int k) {
        if (!crowIs(c) || k < NONE) {
            return badOfList();
        }
        List<Integer> pairs = new ArrayList<>();
        int n = s.places.size();
        for (int pair = 0; pair < 77; pair++) {
            int a = pair / 10;
            int b = pair % 10;
            boolean shorter = false;
            for (int p = 0; p < n && a < n && b < n && a != b; p++) {
                shorter |= p != a && p != b && farNow(c, a, p) + farNow(c, p, b) < farNow(c, a, b);
            }
            if (shorter) {
                pairs.add(pair);
            }
        }
        return listed(k, pairs.size(), pairs);
    }

    int late(int c, int a, int b, int what) {
        if (!crowIs(c) || !placeIs(a) || !placeIs(b) || !in(what, 0, 1)) {
            return bad();
        }
        int best = 23;
        for (int t = 23; t >= 0; t--) {
            if (farOf(s, c, a, b, t) >= farOf(s, c, a, b, best)) {
                best = t;
            }
        }
        return what == 0 ? best : farOf(s, c, a, b, best);
    }

    int standard(int a, int b) {
        if (!placeIs(a) || !placeIs(b)) {
            return bad();
        }
        List<Integer> lengths = new ArrayList<>();
        for (int[] d : s.deeds) {
            if (d[0] == a && d[1] == b) {
                lengths.add(d[2]);
            }
        }
        lengths.sort(null);
        // the lower one of the two in the middle is the least of those from which all are least far
        return lengths.isEmpty() ? NONE : lengths.get((lengths.size() - 1) / 2);
    }

    int book(int k, int what) {
        if (k < 0 || !in(what, 0, 1)) {
            return bad();
        }
        if (k >= s.deeds.size()) {
            return no();
        }
        int[] d = s.deeds.get(k);
        return what == 0 ? 100 * d[0] + 10 * d[1] : d[2];
    }

    // ---- what it is

    int note(int p, int m, int t, int x) {
        if (!placeIs(p) || !in(m, 0, 500) || !in(t, 0, 23) || !in(x, 0, 900)) {
            return bad();
        }
        if (s.notes.size() == 6) {
            return full();
        }
        s.notes.add(new int[] {p, m, t, x});
        return s.notes.size();
    }

    int mark(int c, int d, int t, int n, int x) {
        if (!crowIs(c) || !in(d, 0, 18) || !in(t, 0, 23) || !in(n, 0, 99) || !in(x, 0, 500)) {
            return bad();
        }
        if (s.marks.size() == 6) {
            return full();
        }
        s.marks.add(new int[] {c, d, t, n, x});
        return s.marks.size();
    }

    int forget(int what) {
        if (!in(what, 0, 2)) {
            return bad();
        }
        if (what == 2) {
            keepForUndo();
        }
        List<int[]> list = what == 0 ? s.notes : what == 1 ? s.marks : s.deeds;
        int n = list.size();
        list.clear();
        return n;
    }

    int is(int p) {
        if (!placeIs(p)) {
            return bad();
        }
        int bits = 63;
        for (int kind = 0; kind < 6; kind++) {
            for (int[] n : s.notes) {
                if (n[0] == p && farTo(kind, n[1], n[2]) != n[3]) {
                    bits &= ~(1 << kind);
                }
            }
        }
        return bits;
    }

    private static int most(int[] values, int bits) {
        Map<Integer, Integer> counts = new HashMap<>();
        int most = 0;
        for (int kind = 0; kind < 6; kind++) {
            if ((bits >> kind & 1) == 1) {
                most = Math.max(most, counts.merge(values[kind], 1, Integer::sum));
            }
        }
        return most;
    }

    int look(int p) {
        if (!placeIs(p)) {
            return bad();
        }
        int bits = is(p);
        int best = NONE;
        int least = 7;
        for (int t = 0; t < 24 && bits != 0; t++) {
            for (int m = 0; m <= 60; m++) {
                int[] values = new int[6];
                for (int kind = 0; kind < 6; kind++) {
                    values[kind] = farTo(kind, m, t);
                }
                if (most(values, bits) < least) {
                    least = most(values, bits);
                    best = 100 * t + m;
                }
            }
        }
        return best;
    }

    int kinds(int c) {
        if (!crowIs(c)) {
            return bad();
        }
        int bits = 63;
        for (int kind = 0; kind < 6; kind++) {
            for (int[] m : s.marks) {
                if (m[0] == c && makes(kind, m[1], m[2], m[3]) != m[4]) {
                    bits &= ~(1 << kind);
                }
            }
        }
        return bits;
    }

    int ask(int c) {
        if (!crowIs(c)) {
            return bad();
        }
        int bits = kinds(c);
        int best = NONE;
        int least = 7;
        for (int t = 0; t < 24 && bits != 0; t++) {
            for (int d = 0; d <= 18; d++) {
                int[] values = new int[6];
                for (int kind = 0; kind < 6; kind++) {
                    values[kind] = makes(kind, d, t, s.crows.get(c)[2]);
                }
                if (most(values, bits) < least) {
                    least = most(values, bits);
                    best = 100 * t + d;
                }
            }
        }
        return best;
    }

    int owner(int c, int k) {
        if (!crowIs(c) || k < NONE) {
            return badOfList();
        }
        int n = s.places.size();
        int from = s.crows.get(c)[1];
        int[][] surveyor = new int[n][n];
        int[][] owner = new int[n][n];
        for (int i = 0; i < n; i++) {
            for (int j = 0; j < n; j++) {
                surveyor[i][j] = farNow(c, from, i) / 10 + (i == j ? -6 : 0);
                owner[i][j] = (i == j ? 5 : 0) - farNow(c, from, j) / 10;
            }
        }
        List<Integer> pairs = new ArrayList<>();
        for (int i = 0; i < n; i++) {
            for (int j = 0; j < n; j++) {
                boolean rest = i != from && j != from;
                for (int e = 0; e < n; e++) {
                    rest &= e == from || surveyor[e][j] <= surveyor[i][j] && owner[i][e] <= owner[i][j];
                }
                if (rest) {
                    pairs.add(10 * i + j);
                }
            }
        }
        return listed(k, pairs.size(), pairs);
    }

    int wind(int c, int a, int b, int odds) {
        if (!crowIs(c) || !placeIs(a) || !placeIs(b) || !in(odds, 0, 10)) {
            return bad();
        }
        int far = farNow(c, a, b);
        above = odds * (3 * far / 2) + (10 - odds) * far;
        below = 10;
        for (int d = 10; d > 1; d--) {
            if (above % d == 0 && below % d == 0) {
                above /= d;
                below /= d;
            }
        }
        return 1;
    }

    int years(int seed, int n) {
        if (!in(seed, 0, 999999) || !in(n, 0, 60)) {
            return bad();
        }
        State d = s.copy(false);
        java.math.BigInteger x = java.math.BigInteger.valueOf(seed);
        int sum = 0;
        for (int i = 0; i < n; i++) {
            x = x.multiply(java.math.BigInteger.valueOf(1103515245)).add(java.math.BigInteger.valueOf(12345))
                    .mod(java.math.BigInteger.ONE.shiftLeft(31));
            int c = x.intValueExact() / 65536 % 3;
            int p = x.intValueExact() / 1048576 % 7;
            if (c >= d.crows.size()) {
                d.hour += 1;
            } else if (p < d.places.size() && p != d.crows.get(c)[1]) {
                sum += flight(d, c, p);
            } else {
                d.crows.get(c)[2] = 0;
                d.hour += 8;
            }
        }
        return sum;
    }

    // ---- what there is

    long part(int what) {
        return what == 0 ? above : what == 1 ? below : bad();
    }

    int image(int i) {
        if (!in(i, 0, 1)) {
            return bad();
        }
        images[i] = s.copy(true);
        return 1;
    }

    int from(int i) {
        if (!in(i, 0, 1)) {
            return bad();
        }
        if (images[i] == null) {
            return no();
        }
        s = images[i].copy(true);
        return 1;
    }

    int status(int what) {
        if (!in(what, 0, 2)) {
            bad();
            return -1;
        }
        return refused[what];
    }

    private int[] counts() {
        int lengths = 0;
        for (int[] d : s.deeds) {
            lengths += d[2];
        }
        return new int[] {s.places.size(), s.crows.size(), s.hour, s.deeds.size(), lengths, s.notes.size(),
            s.marks.size(), s.undos.size(), text.length()};
    }

    int count(int what) {
        return in(what, 0, 8) ? counts()[what] : bad();
    }

    long digest() {
        List<int[]> rows = new ArrayList<>();
        rows.add(counts());
        for (List<int[]> list : Arrays.asList(s.places, s.crows, s.deeds, s.notes, s.marks)) {
            rows.addAll(list);
        }
        rows.add(new int[] {above, below});
        long h = 1753;
        for (int[] row : rows) {
            for (int v : row) {
                h = 31 * h + v;
            }
        }
        return h;
    }
}
