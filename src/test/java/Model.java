import java.math.BigInteger;
import java.util.ArrayDeque;
import java.util.ArrayList;
import java.util.Arrays;
import java.util.Deque;
import java.util.List;
import java.util.TreeMap;
import java.util.regex.Matcher;
import java.util.regex.Pattern;

/*
 * The document once more, in the slowest and plainest way, so that OvenLies can be compared with it:
 * every question tries all there is, and no row is ever used again.
 */
final class Model {
    static final class State {
        List<int[]> lies = new ArrayList<>();
        List<int[]> ovens = new ArrayList<>();
        int day = 0;
        List<int[]> seen = new ArrayList<>();
        List<int[]> notes = new ArrayList<>();
        List<int[]> marks = new ArrayList<>();
        Deque<State> undo = new ArrayDeque<>();

        State copy() {
            State other = new State();
            for (int[] lie : lies) other.lies.add(lie.clone());
            for (int[] oven : ovens) other.ovens.add(oven.clone());
            other.day = day;
            other.seen.addAll(seen);
            other.notes.addAll(notes);
            other.marks.addAll(marks);
            other.undo.addAll(undo);
            return other;
        }

        boolean lie(int l) { return 0 <= l && l < lies.size(); }
        boolean oven(int o) { return 0 <= o && o < ovens.size(); }
        int lit(int l) { return lights(lies.get(l)[0], lies.get(l)[1], lies.get(l)[2], day); }
        int take(int o, int l) { return takes(ovens.get(o)[0], lit(l), ovens.get(o)[1]); }

        void say(int l, int o) {
            int[] oven = ovens.get(o);
            oven[1] = Math.min(99, oven[1] + take(o, l));
            lies.get(l)[2] = Math.min(9, lies.get(l)[2] + 1);
        }

        void aDay() {
            for (int[] oven : ovens) oven[1] = Math.max(0, oven[1] - 7);
            day++;
        }

        int hot() {
            int n = 0;
            for (int[] oven : ovens) if (oven[1] >= 20) n++;
            return n;
        }

        int heat() {
            int n = 0;
            for (int[] oven : ovens) n += oven[1];
            return n;
        }

        void remember() {
            State before = copy();
            before.undo.clear();
            undo.addLast(before);
            if (undo.size() > 8) undo.removeFirst();
        }
    }

    State now = new State();
    State[] images = new State[2];
    StringBuilder text = new StringBuilder();
    BigInteger above = BigInteger.ZERO, below = BigInteger.ONE;
    long[] refused = new long[3];

    static int lights(int kind, int u, int k, int d) {
        if (kind == 0) return Math.max(2 * u - 2 * k, 0);
        if (kind == 1) return lights(0, u, k, d) + (k == 0 ? 4 : 0);
        if (kind == 2) return (int) Math.ceil(lights(0, u, k, d) / 2.0);
        if (kind == 3) return k >= 2 ? 0 : lights(1, u, k, d);
        if (kind == 4) return lights(0, u, k, d) + (d % 7 == 6 ? 6 : 0);
        return lights(1, u, k, d) * (d % 10 == 0 ? 2 : 1);
    }

    static int takes(int kind, int x, int h) {
        if (kind == 0) return x;
        if (kind == 1) return Math.min(12, takes(0, x, h));
        if (kind == 2) return (int) Math.floor(takes(0, x, h) / 2.0);
        if (kind == 3) return takes(2, x, h) + (x >= 1 ? 4 : 0);
        if (kind == 4) return Math.max(0, takes(1, x, h) - (int) Math.floor(h / 10.0));
        return takes(0, x, h) + (x >= 10 ? 5 : 0);
    }

    private int bad() { refused[0]++; return -2; }
    private int badTen() { refused[0]++; return -10; }
    private int no() { refused[1]++; return -3; }
    private int full() { refused[2]++; return -4; }
    private static boolean in(int a, int x, int b) { return a <= x && x <= b; }

    int town() {
        int n = now.lies.size();
        now = new State();
        return n;
    }

    int lie(int kind, int untruth) {
        if (!in(0, kind, 5) || !in(1, untruth, 9)) return bad();
        if (now.lies.size() == 7) return full();
        now.undo.clear();
        now.lies.add(new int[] {kind, untruth, 0});
        return now.lies.size() - 1;
    }

    int oven(int kind) {
        if (!in(0, kind, 5)) return bad();
        if (now.ovens.size() == 5) return full();
        now.undo.clear();
        now.ovens.add(new int[] {kind, 0});
        return now.ovens.size() - 1;
    }

    int type(int c) {
        if (!in(0, c, 127)) return bad();
        if (text.length() == 150) return full();
        text.append((char) c);
        return text.length();
    }

    int clear() {
        int n = text.length();
        text = new StringBuilder();
        return n;
    }

    private static final Pattern TOKEN = Pattern.compile(" *([a-z]+|[0-9]+|;|[^ ]|$)", Pattern.DOTALL);
    private static final class Fault extends Exception {
        final int place;
        Fault(int place) { super(null, null, false, false); this.place = place; }
    }

    int read() {
        List<String> tokens = new ArrayList<>();
        List<Integer> places = new ArrayList<>();
        // The end is told by a byte that no text holds, as a $ would match ahead of a last line's end.
        Matcher m = TOKEN.matcher(text.toString() + '\u0100');
        while (m.find()) {
            if (m.group(1).isEmpty()) break;
            tokens.add(m.group(1));
            places.add(m.start(1));
        }
        State fresh = new State();
        try {
            int at = 0, items = 0;
            while (items == 0 || !tokens.get(at).equals("\u0100")) {
                String word = tokens.get(at);
                int place = places.get(at);
                if ((items == 0) != word.equals("town")) throw new Fault(place);
                at++;
                int[] numbers = new int[2];
                int[][] ranges = ranges(fresh, word, place);
                for (int i = 0; i < ranges.length; i++) {
                    String figures = tokens.get(at);
                    if (!figures.matches("[0-9]{1,2}")) throw new Fault(places.get(at));
                    numbers[i] = Integer.parseInt(figures);
                    if (!in(ranges[i][0], numbers[i], ranges[i][1])) throw new Fault(places.get(at));
                    at++;
                }
                if (!tokens.get(at).equals(";")) throw new Fault(places.get(at));
                at++;
                items++;
                item(fresh, word, numbers);
            }
            now = fresh;
            return items;
        } catch (Fault fault) {
            return -10 - fault.place;
        }
    }

    private static int[][] ranges(State s, String word, int place) throws Fault {
        int[] lie = {0, s.lies.size() - 1}, oven = {0, s.ovens.size() - 1}, kind = {0, 5};
        if (word.equals("town")) return new int[][] {};
        if (word.equals("lie") && s.lies.size() < 7) return new int[][] {kind, {1, 9}};
        if (word.equals("oven") && s.ovens.size() < 5) return new int[][] {kind};
        if (word.equals("say")) return new int[][] {lie, oven};
        if (word.equals("forget")) return new int[][] {lie};
        if (word.equals("days")) return new int[][] {{1, 99}};
        throw new Fault(place);
    }

    private static void item(State s, String word, int[] n) {
        if (word.equals("lie")) s.lies.add(new int[] {n[0], n[1], 0});
        if (word.equals("oven")) s.ovens.add(new int[] {n[0], 0});
        if (word.equals("say")) s.say(n[0], n[1]);
        if (word.equals("forget")) s.lies.get(n[0])[2] = 0;
        if (word.equals("days")) for (int i = 0; i < n[0]; i++) s.aDay();
    }

    int days(int n) {
        if (!in(1, n, 60)) return bad();
        now.remember();
        for (int i = 0; i < n; i++) if (now.day != 9999) now.aDay();
        return now.hot();
    }

    int says(int l, int o) {
        if (!now.lie(l) || !now.oven(o)) return bad();
        now.remember();
        now.say(l, o);
        return now.ovens.get(o)[1];
    }

    int forgets(int l) {
        if (!now.lie(l)) return bad();
        int k = now.lies.get(l)[2];
        if (k == 0) return no();
        now.remember();
        now.lies.get(l)[2] = 0;
        return k;
    }

    int undo() {
        if (now.undo.isEmpty()) return no();
        State before = now.undo.removeLast();
        for (int l = 0; l < now.lies.size(); l++) now.lies.get(l)[2] = before.lies.get(l)[2];
        for (int o = 0; o < now.ovens.size(); o++) now.ovens.get(o)[1] = before.ovens.get(o)[1];
        now.day = before.day;
        return now.day;
    }

    int of(int l, int what) {
        if (!now.lie(l) || !in(0, what, 3)) return bad();
        return what == 3 ? now.lit(l) : now.lies.get(l)[what];
    }

    int about(int o, int what) {
        if (!now.oven(o) || !in(0, what, 2)) return bad();
        if (what == 2) return now.ovens.get(o)[1] >= 20 ? 1 : 0;
        return now.ovens.get(o)[what];
    }

    int takes(int o, int l) { return now.oven(o) && now.lie(l) ? now.take(o, l) : bad(); }

    int then(int o, int m) {
        if (!now.oven(o) || !in(0, m, 60)) return bad();
        State s = now.copy();
        for (int i = 0; i < m; i++) s.aDay();
        return s.ovens.get(o)[1];
    }

    int cold(int o) {
        if (!now.oven(o)) return bad();
        State s = now.copy();
        int m = 0;
        for (; s.ovens.get(o)[1] >= 20; m++) s.aDay();
        return m;
    }

    int few(int o, int k) {
        if (!now.oven(o) || k < -1) return badTen();
        int n = now.lies.size();
        for (int length = 0; length <= 5; length++) {
            int rows = 1;
            for (int i = 0; i < length; i++) rows *= n;
            for (int code = 0; code < rows; code++) {
                int[] row = new int[length];
                int rest = code;
                for (int i = length - 1; i >= 0; i--) {
                    row[i] = rest % n;
                    rest /= n;
                }
                if (hotBehind(o, row)) return k == -1 ? length : k < length ? row[k] : -5;
            }
        }
        return -6;
    }

    private boolean hotBehind(int o, int[] row) {
        int heat = now.ovens.get(o)[1];
        int[] more = new int[7];
        for (int l : row) {
            int[] lie = now.lies.get(l);
            int x = lights(lie[0], lie[1], Math.min(9, lie[2] + more[l]), now.day);
            heat = Math.min(99, heat + takes(now.ovens.get(o)[0], x, heat));
            more[l]++;
        }
        return heat >= 20;
    }

    int round(int o) {
        if (o != -2 && o != -1 && !now.oven(o)) return badTen();
        int n = now.ovens.size(), choices = now.lies.size() + 1;
        int ways = 1;
        for (int i = 0; i < n; i++) ways *= choices;
        int[] best = null;
        int bestHot = 0, bestHeat = 0;
        for (int code = 0; code < ways; code++) {
            int[] way = new int[n];
            int rest = code;
            for (int i = n - 1; i >= 0; i--) {
                way[i] = rest % choices - 1;
                rest /= choices;
            }
            int hot = 0, heat = 0;
            int[] more = new int[7];
            for (int i = 0; i < n; i++) {
                int h = now.ovens.get(i)[1];
                if (way[i] >= 0) {
                    int[] lie = now.lies.get(way[i]);
                    int x = lights(lie[0], lie[1], Math.min(9, lie[2] + more[way[i]]++), now.day);
                    h = Math.min(99, h + takes(now.ovens.get(i)[0], x, h));
                }
                hot += h >= 20 ? 1 : 0;
                heat += h;
            }
            if (best == null || hot > bestHot || hot == bestHot && heat > bestHeat) {
                best = way;
                bestHot = hot;
                bestHeat = heat;
            }
        }
        return o == -2 ? bestHot : o == -1 ? bestHeat : best[o];
    }

    int keep(int o, int m) {
        if (!now.oven(o) || !in(1, m, 9)) return bad();
        for (int l = 0; l < now.lies.size(); l++) {
            State s = now.copy();
            boolean hot = true;
            for (int i = 0; i < m; i++) {
                s.say(l, o);
                s.aDay();
                hot &= s.ovens.get(o)[1] >= 20;
            }
            if (hot) return l;
        }
        return -1;
    }

    int seen(int o, int h, int k, int d, int x) {
        if (!now.oven(o) || !in(0, h, 99) || !in(0, k, 9) || !in(0, d, 99) || !in(0, x, 60)) return bad();
        if (now.seen.size() == 5) return full();
        now.seen.add(new int[] {o, h, k, d, x});
        return now.seen.size();
    }

    int which() {
        int bits = 0;
        for (int l = 0; l < now.lies.size(); l++) {
            boolean fits = true;
            int[] lie = now.lies.get(l);
            for (int[] s : now.seen) {
                fits &= takes(now.ovens.get(s[0])[0], lights(lie[0], lie[1], s[2], s[3]), s[1]) == s[4];
            }
            if (fits) bits += 1 << l;
        }
        return bits;
    }

    private static int most(List<Integer> values) {
        TreeMap<Integer, Integer> groups = new TreeMap<>();
        int most = 0;
        for (int v : values) most = Math.max(most, groups.merge(v, 1, Integer::sum));
        return most;
    }

    int tell(int o) {
        if (!now.oven(o)) return bad();
        int bits = which();
        if (bits == 0) return -1;
        int[] oven = now.ovens.get(o);
        int best = 99, told = -1;
        for (int code = 0; code < 100; code++) {
            if (code % 10 > 2) continue;
            List<Integer> values = new ArrayList<>();
            for (int l = 0; l < now.lies.size(); l++) {
                int[] lie = now.lies.get(l);
                if ((bits & 1 << l) != 0) {
                    values.add(takes(oven[0], lights(lie[0], lie[1], code % 10, code / 10), oven[1]));
                }
            }
            if (most(values) < best) {
                best = most(values);
                told = code;
            }
        }
        return told;
    }

    int note(int l, int u, int k, int d, int x) {
        if (!now.lie(l) || !in(1, u, 9) || !in(0, k, 9) || !in(0, d, 99) || !in(0, x, 60)) return bad();
        if (now.notes.size() == 6) return full();
        now.notes.add(new int[] {l, u, k, d, x});
        return now.notes.size();
    }

    int mark(int o, int h, int x, int y) {
        if (!now.oven(o) || !in(0, h, 99) || !in(0, x, 60) || !in(0, y, 60)) return bad();
        if (now.marks.size() == 6) return full();
        now.marks.add(new int[] {o, h, x, y});
        return now.marks.size();
    }

    int forget(int what) {
        if (!in(0, what, 2)) return bad();
        List<int[]> list = what == 0 ? now.seen : what == 1 ? now.notes : now.marks;
        int n = list.size();
        list.clear();
        return n;
    }

    int is(int l) {
        if (!now.lie(l)) return bad();
        int bits = 0;
        for (int kind = 0; kind < 6; kind++) {
            boolean fits = true;
            for (int[] n : now.notes) if (n[0] == l) fits &= lights(kind, n[1], n[2], n[3]) == n[4];
            if (fits) bits += 1 << kind;
        }
        return bits;
    }

    int look(int l) {
        if (!now.lie(l)) return bad();
        int bits = is(l);
        if (bits == 0) return -1;
        int best = 99, told = -1;
        for (int k = 0; k < 4; k++) {
            for (int d = 0; d < 21; d++) {
                List<Integer> values = new ArrayList<>();
                for (int kind = 0; kind < 6; kind++) {
                    if ((bits >> kind) % 2 == 1) values.add(lights(kind, now.lies.get(l)[1], k, d));
                }
                if (most(values) < best) {
                    best = most(values);
                    told = 100 * k + d;
                }
            }
        }
        return told;
    }

    int kinds(int o) {
        if (!now.oven(o)) return bad();
        int bits = 0;
        for (int kind = 0; kind < 6; kind++) {
            boolean fits = true;
            for (int[] m : now.marks) if (m[0] == o) fits &= takes(kind, m[2], m[1]) == m[3];
            if (fits) bits += 1 << kind;
        }
        return bits;
    }

    int ask(int o) {
        if (!now.oven(o)) return bad();
        int bits = kinds(o);
        if (bits == 0) return -1;
        int best = 99, told = -1;
        for (int x = 0; x < 61; x++) {
            List<Integer> values = new ArrayList<>();
            for (int kind = 0; kind < 6; kind++) {
                if ((bits >> kind) % 2 == 1) values.add(takes(kind, x, now.ovens.get(o)[1]));
            }
            if (most(values) < best) {
                best = most(values);
                told = x;
            }
        }
        return told;
    }

    private int gets(int o, int mine, int other) {
        return mine == other ? -3 : now.take(o, mine) - now.lies.get(mine)[2];
    }

    int arch(int o, int k) {
        if (!now.oven(o) || k < -1) return badTen();
        List<Integer> pairs = new ArrayList<>();
        int n = now.lies.size();
        for (int i = 0; i < n; i++) {
            for (int j = 0; j < n; j++) {
                boolean rests = true;
                for (int a = 0; a < n; a++) {
                    rests &= gets(o, a, j) <= gets(o, i, j) && gets(o, a, i) <= gets(o, j, i);
                }
                if (rests) pairs.add(10 * i + j);
            }
        }
        return k == -1 ? pairs.size() : k < pairs.size() ? pairs.get(k) : -5;
    }

    int trues(int o, int lies, int c) {
        if (!now.oven(o) || !in(0, lies, (1 << now.lies.size()) - 1) || !in(0, c, 10)) return bad();
        // The chances of each HEAT, one LIE behind the other.
        BigInteger[] chances = new BigInteger[100];
        Arrays.fill(chances, BigInteger.ZERO);
        chances[now.ovens.get(o)[1]] = BigInteger.ONE;
        BigInteger all = BigInteger.ONE;
        for (int l = 0; l < now.lies.size(); l++) {
            if ((lies >> l & 1) == 0) continue;
            BigInteger[] next = new BigInteger[100];
            Arrays.fill(next, BigInteger.ZERO);
            for (int h = 0; h < 100; h++) {
                int kind = now.ovens.get(o)[0];
                int same = Math.min(99, h + takes(kind, 0, h));
                int more = Math.min(99, h + takes(kind, now.lit(l), h));
                next[same] = next[same].add(chances[h].multiply(BigInteger.valueOf(c)));
                next[more] = next[more].add(chances[h].multiply(BigInteger.valueOf(10 - c)));
            }
            chances = next;
            all = all.multiply(BigInteger.TEN);
        }
        BigInteger hot = BigInteger.ZERO;
        for (int h = 20; h < 100; h++) hot = hot.add(chances[h]);
        BigInteger g = hot.gcd(all);
        above = hot.divide(g);
        below = all.divide(g);
        return 1;
    }

    int years(int seed, int n) {
        if (!in(0, seed, 999999) || !in(0, n, 60)) return bad();
        State s = now.copy();
        BigInteger x = BigInteger.valueOf(seed);
        for (int i = 0; i < n; i++) {
            x = x.multiply(BigInteger.valueOf(1103515245)).add(BigInteger.valueOf(12345));
            x = x.mod(BigInteger.valueOf(2147483648L));
            int l = x.divide(BigInteger.valueOf(65536)).mod(BigInteger.valueOf(7)).intValue();
            int o = x.divide(BigInteger.valueOf(1048576)).mod(BigInteger.valueOf(5)).intValue();
            if (s.lie(l) && s.oven(o)) s.say(l, o);
            s.aDay();
        }
        return s.hot();
    }

    long part(int what) {
        if (!in(0, what, 1)) return bad();
        return (what == 0 ? above : below).longValueExact();
    }

    int image(int i) {
        if (!in(0, i, 1)) return bad();
        images[i] = now.copy();
        return 1;
    }

    int from(int i) {
        if (!in(0, i, 1)) return bad();
        if (images[i] == null) return no();
        now = images[i].copy();
        return 1;
    }

    int status(int what) {
        if (in(0, what, 2)) return (int) refused[what];
        refused[0]++;
        return -1;
    }

    private int[] counts() {
        return new int[] {now.lies.size(), now.ovens.size(), now.hot(), now.day, now.heat(), now.seen.size(),
            now.notes.size(), now.marks.size(), now.undo.size(), text.length()};
    }

    int count(int what) { return in(0, what, 9) ? counts()[what] : bad(); }

    long digest() {
        List<Long> values = new ArrayList<>();
        for (int v : counts()) values.add((long) v);
        for (List<int[]> rows : List.of(now.lies, now.ovens, now.seen, now.notes, now.marks)) {
            for (int[] row : rows) for (int v : row) values.add((long) v);
        }
        values.add(above.longValueExact());
        values.add(below.longValueExact());
        long h = 1697;
        for (long v : values) h = 31 * h + v;
        return h;
    }
}
