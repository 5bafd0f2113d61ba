import java.math.BigInteger;
import java.util.ArrayList;
import java.util.Arrays;
import java.util.Collections;
import java.util.List;
import java.util.TreeMap;
import java.util.regex.Matcher;
import java.util.regex.Pattern;

/** The document told a second time, slowly and by other means, for FuzzTest to compare with. */
final class Oracle {
    static final int NONE = -1;

    // ---- the TAPE and the TEXT -------------------------------------------------------------

    private static final String NUMBER = "(?: +-?[0-9]+)";
    private static final String STATEMENT = "(?:(?:step|plane|eye)" + NUMBER + "{3}|(?:push|source|base)" + NUMBER
        + "{2}|speck" + NUMBER + "{3})";
    private static final Pattern TEXT = Pattern.compile(" *|(?: *" + STATEMENT + " *;)* *" + STATEMENT + " *");
    private static final Pattern TOKEN = Pattern.compile("[a-z]+|-?[0-9]+|;");

    static final class Text {
        List<int[]> steps = new ArrayList<>();
        List<int[]> planes = new ArrayList<>();
        List<int[]> eyes = new ArrayList<>();
        TreeMap<Integer, Integer> pushes = new TreeMap<>();
        TreeMap<Integer, int[]> specks = new TreeMap<>();
        TreeMap<Integer, Integer> sources = new TreeMap<>();
        int[] base = null;

        int push(int d) {
            return d < 1 || d > 20 ? 0 : pushes.getOrDefault(d, 0);
        }

        int hold(int place, int side) {
            int[] both = specks.containsKey(place) ? specks.get(place) : base == null ? new int[2] : base;
            return both[side];
        }

        Text copy() {
            Text t = new Text();
            t.pushes = new TreeMap<>(pushes);
            t.specks = specks;
            t.sources = sources;
            t.base = base;
            return t;
        }
    }

    private StringBuilder tape = new StringBuilder();
    private Text text = new Text();
    private List<Object[]> sights = new ArrayList<>();

    int feed(int a, int b, int c, int d, int e) {
        if (tape.length() > 380) {
            return NONE;
        }
        for (int v : new int[] {a, b, c, d, e}) {
            for (int i = 3; i >= 0; i--) {
                tape.append((char) (v >> 8 * i & 255));
            }
        }
        return tape.length();
    }

    int end(int n) {
        if (n < 0 || n > tape.length()) {
            return NONE;
        }
        tape.setLength(n);
        return n;
    }

    private static boolean viable(String s) {
        Matcher m = TEXT.matcher(s);
        return m.matches() || m.hitEnd();
    }

    private static boolean isWord(String w) {
        return List.of("step", "plane", "eye", "push", "speck", "source", "base").contains(w);
    }

    /** The place of the first byte or WORD that can't stand, or NONE. */
    private static int placeOfBad(String s) {
        if (TEXT.matcher(s).matches()) {
            return NONE;
        }
        int bad = 0;
        while (bad < s.length() && viable(s.substring(0, bad + 1))) {
            bad++;
        }
        int word = bad;
        while (word > 0 && s.charAt(word - 1) >= 'a' && s.charAt(word - 1) <= 'z') {
            word--;
        }
        boolean letter = bad < s.length() && s.charAt(bad) >= 'a' && s.charAt(bad) <= 'z';
        boolean whole = isWord(s.substring(word, bad));
        return word < bad && (letter || !whole) ? word : bad;
    }

    private final List<Integer> faults = new ArrayList<>();
    private int statements;

    private void fault(int place, int kind) {
        faults.add(1 + 8 * place + kind);
    }

    private Text parse(String s) {
        faults.clear();
        statements = 0;
        Text t = new Text();
        int bad = placeOfBad(s);
        if (bad != NONE) {
            fault(bad, 0);
        }
        List<int[]> numbers = new ArrayList<>();
        String word = "";
        Matcher m = TOKEN.matcher(bad == NONE ? s : s.substring(0, bad));
        while (m.find()) {
            String token = m.group();
            if (token.equals(";")) {
                continue;
            }
            if (isWord(token)) {
                word = token;
                statements++;
                numbers.clear();
                wordFaults(t, word, m.start());
            } else {
                int digits = token.startsWith("-") ? token.length() - 1 : token.length();
                int value = digits > 4 ? 100000 : Integer.parseInt(token);
                numbers.add(new int[] {value, m.start()});
                if (digits > 4) {
                    fault(m.start(), 1);
                }
                numberFaults(t, word, numbers);
            }
        }
        return t;
    }

    private void wordFaults(Text t, String word, int place) {
        boolean many = word.equals("step") && t.steps.size() >= 16 || word.equals("plane") && t.planes.size() >= 16
            || word.equals("eye") && t.eyes.size() >= 16 || word.equals("speck") && t.specks.size() >= 20
            || word.equals("source") && t.sources.size() >= 5;
        if (many || statements > 40) {
            fault(place, 4);
        }
        if (word.equals("base") && t.base != null) {
            fault(place, 3);
        }
    }

    private void bounds(int[] number, int low, int high) {
        if (number[0] < low || number[0] > high) {
            fault(number[1], 1);
        }
    }

    private void numberFaults(Text t, String word, List<int[]> n) {
        int i = n.size() - 1;
        int[] now = n.get(i);
        switch (word) {
            case "step": case "plane": case "eye":
                bounds(now, -9, 9);
                if (i == 2) {
                    int[] way = {n.get(0)[0], n.get(1)[0], now[0]};
                    if (way[0] == 0 && way[1] == 0 && way[2] == 0) {
                        fault(n.get(0)[1], 2);
                    }
                    (word.equals("step") ? t.steps : word.equals("plane") ? t.planes : t.eyes).add(way);
                }
                break;
            case "push":
                if (i == 0) {
                    bounds(now, 1, 20);
                    if (t.pushes.containsKey(now[0])) {
                        fault(now[1], 3);
                    }
                } else {
                    bounds(now, 0, 999);
                    t.pushes.put(n.get(0)[0], now[0]);
                }
                break;
            case "speck":
                bounds(now, 0, i == 0 ? 99 : 9999);
                if (i == 0 && t.specks.containsKey(now[0])) {
                    fault(now[1], 3);
                }
                if (i == 2) {
                    if (now[0] < n.get(1)[0]) {
                        fault(now[1], 2);
                    }
                    t.specks.put(n.get(0)[0], new int[] {n.get(1)[0], now[0]});
                }
                break;
            case "source":
                bounds(now, i == 0 ? 1 : 0, i == 0 ? 98 : 9999);
                if (i == 0 && t.sources.containsKey(now[0])) {
                    fault(now[1], 3);
                }
                if (i == 1) {
                    t.sources.put(n.get(0)[0], now[0]);
                }
                break;
            default:
                bounds(now, 0, 9999);
                if (i == 1) {
                    if (now[0] < n.get(0)[0]) {
                        fault(now[1], 2);
                    }
                    t.base = new int[] {n.get(0)[0], now[0]};
                }
                break;
        }
    }

    int read() {
        String s = tape.toString();
        tape.setLength(0);
        Text t = parse(s);
        if (!faults.isEmpty()) {
            return -2 - Collections.min(faults);
        }
        text = t;
        sights.clear();
        return statements;
    }

    int told(int what, int k, int part) {
        if (what < 0 || what > 2 || part < 0 || part > 2) {
            return -100;
        }
        List<int[]> ways = what == 0 ? text.steps : what == 1 ? text.planes : text.eyes;
        return k < 0 || k >= ways.size() ? -100 : ways.get(k)[part];
    }

    int push(int d) {
        return text.push(d);
    }

    int hold(int place, int side) {
        return place < 0 || place > 99 || side < 0 || side > 1 ? NONE : text.hold(place, side);
    }

    // ---- KNOTS and LINES -------------------------------------------------------------------

    static final class Line {
        int from;
        int to;
        int[] step;
        boolean gone;

        int[] from(int knot) {
            return from == knot ? step : times(step, -1);
        }
    }

    private final List<Boolean> knots = new ArrayList<>();
    private final List<Line> lines = new ArrayList<>();
    private int[] groups = new int[0];

    private static int[] times(int[] a, int n) {
        return new int[] {n * a[0], n * a[1], n * a[2]};
    }

    private static int[] plus(int[] a, int[] b) {
        return new int[] {a[0] + b[0], a[1] + b[1], a[2] + b[2]};
    }

    private static int dot(int[] a, int[] b) {
        return a[0] * b[0] + a[1] * b[1] + a[2] * b[2];
    }

    private static int worth(int[] a) {
        return dot(a, a);
    }

    private static boolean wide(int[] a) {
        return Arrays.stream(a).anyMatch(v -> v < -99 || v > 99);
    }

    private boolean toldStep(int[] a) {
        return text.steps.stream().anyMatch(s -> Arrays.equals(s, a) || Arrays.equals(s, times(a, -1)));
    }

    int knot(boolean rim) {
        if (knots.size() == 60) {
            return NONE;
        }
        knots.add(rim);
        return knots.size() - 1;
    }

    private boolean noKnot(int k) {
        return k < 0 || k >= knots.size();
    }

    int line(int from, int to, int x, int y, int z) {
        int[] step = {x, y, z};
        if (lines.size() == 120 || noKnot(from) || noKnot(to) || from == to || wide(step) || worth(step) == 0) {
            return NONE;
        }
        Line l = new Line();
        l.from = from;
        l.to = to;
        l.step = step;
        lines.add(l);
        return lines.size() - 1;
    }

    private Line there(int k) {
        return k < 0 || k >= lines.size() || lines.get(k).gone ? null : lines.get(k);
    }

    int lines(int k, int what) {
        Line l = there(k);
        if (l == null || what < 0 || what > 5) {
            return -1000;
        }
        return what < 3 ? l.step[what] : what == 3 ? l.from : what == 4 ? l.to : worth(l.step);
    }

    private int[] sumOf(int knot) {
        int[] sum = new int[3];
        for (Line l : lines) {
            if (!l.gone && (l.from == knot || l.to == knot)) {
                sum = plus(sum, l.from(knot));
            }
        }
        return sum;
    }

    int sum(int knot, int part) {
        return noKnot(knot) || part < 0 || part > 2 ? -100000 : sumOf(knot)[part];
    }

    int unsound() {
        for (int k = 0; k < knots.size(); k++) {
            if (!knots.get(k) && worth(sumOf(k)) != 0) {
                return k;
            }
        }
        return NONE;
    }

    int meet(int a, int b) {
        Line l = there(a);
        Line m = there(b);
        if (l == null || m == null || l == m || !(m.from == l.from || m.from == l.to) || !(m.to == l.from || m.to == l.to)) {
            return NONE;
        }
        int[] sum = plus(l.step, m.from(l.from));
        if (wide(sum)) {
            return -2;
        }
        if (worth(sum) >= worth(l.step) + worth(m.step)) {
            return 0;
        }
        l.step = sum;
        m.gone = true;
        l.gone = worth(sum) == 0;
        return 1;
    }

    int part(int line, int a, boolean turned) {
        Line l = there(line);
        if (l == null || a < 0 || a >= text.steps.size() || lines.size() == 120) {
            return NONE;
        }
        int[] one = times(text.steps.get(a), turned ? -1 : 1);
        int[] other = plus(l.step, times(one, -1));
        if (!toldStep(other) || worth(one) + worth(other) >= worth(l.step)) {
            return -2;
        }
        l.step = one;
        return line(l.from, l.to, other[0], other[1], other[2]);
    }

    int least(int knot, long set) {
        if (noKnot(knot)) {
            return NONE;
        }
        List<int[]> ways = new ArrayList<>();
        for (int i = 0; i < 64; i++) {
            if ((set >> i & 1) == 1) {
                Line l = i < 60 ? there(i) : null;
                if (l == null || l.from != knot && l.to != knot) {
                    return NONE;
                }
                ways.add(l.from(knot));
            }
        }
        if (ways.size() < 2 || ways.size() > 8) {
            return NONE;
        }
        int[] best = null;
        int bestWorth = 0;
        // All partings into groups: the i-th told line in one of the groups so far, or in a new one.
        List<int[]> partings = new ArrayList<>();
        partings.add(new int[0]);
        for (int i = 0; i < ways.size(); i++) {
            List<int[]> next = new ArrayList<>();
            for (int[] p : partings) {
                int most = Arrays.stream(p).max().orElse(-1);
                for (int g = 0; g <= most + 1; g++) {
                    int[] q = Arrays.copyOf(p, p.length + 1);
                    q[p.length] = g;
                    next.add(q);
                }
            }
            partings = next;
        }
        for (int[] p : partings) {
            int w = worthOf(ways, p);
            if (w >= 0 && (best == null || w < bestWorth || w == bestWorth && earlier(p, best))) {
                best = p;
                bestWorth = w;
            }
        }
        groups = best;
        return bestWorth;
    }

    private int worthOf(List<int[]> ways, int[] parting) {
        int all = 0;
        for (int g = 0; g < parting.length; g++) {
            int[] sum = new int[3];
            int many = 0;
            for (int i = 0; i < parting.length; i++) {
                if (parting[i] == g) {
                    sum = plus(sum, ways.get(i));
                    many++;
                }
            }
            if (many > 1 && worth(sum) != 0 && !toldStep(sum)) {
                return -1;
            }
            all += worth(sum);
        }
        return all;
    }

    private static boolean earlier(int[] p, int[] q) {
        for (int g = 0; g < p.length; g++) {
            int a = 0;
            int b = 0;
            for (int i = 0; i < p.length; i++) {
                a |= p[i] == g ? 1 << i : 0;
                b |= q[i] == g ? 1 << i : 0;
            }
            if (a != b) {
                return a < b;
            }
        }
        return false;
    }

    int group(int i) {
        return i < 0 || i >= groups.length ? NONE : groups[i];
    }

    // ---- SHARES ----------------------------------------------------------------------------

    private static boolean badPull(int x, int y, int z) {
        return Math.min(x, Math.min(y, z)) < -9 || Math.max(x, Math.max(y, z)) > 9 || x == 0 && y == 0 && z == 0;
    }

    private static BigInteger big(long v) {
        return BigInteger.valueOf(v);
    }

    private static BigInteger[] square(int[] t, int[] n, int[] b) {
        BigInteger above = big(dot(t, n)).multiply(big(dot(t, b))).pow(2);
        BigInteger below = big(worth(t)).pow(2).multiply(big(worth(n))).multiply(big(worth(b)));
        BigInteger g = above.gcd(below);
        return new BigInteger[] {above.divide(g), below.divide(g)};
    }

    private BigInteger[] shareOf(int x, int y, int z, int plane, int step) {
        if (badPull(x, y, z) || plane < 0 || plane >= text.planes.size() || step < 0 || step >= text.steps.size()) {
            return null;
        }
        int[] n = text.planes.get(plane);
        int[] b = text.steps.get(step);
        return dot(n, b) != 0 ? null : square(new int[] {x, y, z}, n, b);
    }

    long share(int x, int y, int z, int plane, int step, int part) {
        BigInteger[] s = shareOf(x, y, z, plane, step);
        return s == null || part < 0 || part > 1 ? -1 : s[part].longValueExact();
    }

    int slides(int x, int y, int z, int plane, int step, int p, int h) {
        BigInteger[] s = shareOf(x, y, z, plane, step);
        if (s == null || p < 0 || p > 9999 || h < 0 || h > 9999) {
            return NONE;
        }
        return big(p).pow(2).multiply(s[0]).compareTo(big(h).pow(2).multiply(s[1])) > 0 ? 1 : 0;
    }

    int first(int x, int y, int z, int k) {
        if (badPull(x, y, z)) {
            return NONE;
        }
        List<Integer> all = new ArrayList<>();
        List<BigInteger[]> shares = new ArrayList<>();
        for (int n = 0; n < text.planes.size(); n++) {
            for (int b = 0; b < text.steps.size(); b++) {
                BigInteger[] s = shareOf(x, y, z, n, b);
                if (s != null && s[0].signum() > 0) {
                    all.add(16 * n + b);
                    shares.add(s);
                }
            }
        }
        List<Integer> greatest = new ArrayList<>();
        for (int i = 0; i < all.size(); i++) {
            boolean beaten = false;
            for (BigInteger[] s : shares) {
                beaten |= s[0].multiply(shares.get(i)[1]).compareTo(shares.get(i)[0].multiply(s[1])) > 0;
            }
            if (!beaten) {
                greatest.add(all.get(i));
            }
        }
        if (k == NONE) {
            return greatest.size();
        }
        return k < 0 || k >= greatest.size() ? NONE : greatest.get(k);
    }

    // ---- THE ROW ---------------------------------------------------------------------------

    static final class Flaw {
        int place;
        final int sign;
        boolean there = true;

        Flaw(int place, int sign) {
            this.place = place;
            this.sign = sign;
        }
    }

    static final class ARow {
        List<Flaw> flaws = new ArrayList<>();
        long slipped;
        long work;
        long out;
        long lost;
        long came;
        long went;

        ARow copy() {
            ARow r = new ARow();
            for (Flaw f : flaws) {
                r.flaws.add(new Flaw(f.place, f.sign));
            }
            r.slipped = slipped;
            r.work = work;
            r.out = out;
            r.lost = lost;
            r.came = came;
            r.went = went;
            return r;
        }

        Flaw at(int place) {
            for (Flaw f : flaws) {
                if (f.there && f.place == place) {
                    return f;
                }
            }
            return null;
        }

        String look() {
            char[] all = new char[100];
            Arrays.fill(all, '.');
            for (Flaw f : flaws) {
                all[f.place] = f.sign > 0 ? '+' : '-';
            }
            return new String(all);
        }

        int feels(Text t, int place, int sign, int q) {
            int sum = sign * q;
            for (Flaw f : flaws) {
                if (f.there && f.place < place) {
                    sum += sign * f.sign * t.push(place - f.place);
                } else if (f.there && f.place > place) {
                    sum -= sign * f.sign * t.push(f.place - place);
                }
            }
            return sum;
        }

        boolean tick(Text t, int q, int side, long more) {
            List<Flaw> order = new ArrayList<>(flaws);
            order.sort((a, b) -> a.place - b.place);
            int[] felt = new int[order.size()];
            for (int i = 0; i < felt.length; i++) {
                felt[i] = feels(t, order.get(i).place, order.get(i).sign, q);
            }
            boolean any = false;
            for (int i = 0; i < felt.length; i++) {
                Flaw f = order.get(i);
                if (!f.there || Math.abs((long) felt[i]) <= t.hold(f.place, side) + more) {
                    continue;
                }
                int way = felt[i] > 0 ? 1 : -1;
                Flaw other = at(f.place + way);
                if (other != null && other.sign == f.sign) {
                    continue;
                }
                any = true;
                went++;
                slipped += way * f.sign;
                work += (long) q * way * f.sign;
                if (other != null) {
                    f.there = false;
                    other.there = false;
                    lost += 2;
                } else if (f.place + way < 0 || f.place + way > 99) {
                    f.there = false;
                    out++;
                } else {
                    f.place += way;
                }
            }
            flaws.removeIf(f -> !f.there);
            for (int place : t.sources.keySet()) {
                int would = feels(t, place, 1, q);
                boolean free = at(place) == null && at(place - 1) == null && at(place + 1) == null;
                if (free && flaws.size() <= 28 && Math.abs(would) > t.sources.get(place)) {
                    flaws.add(new Flaw(place + 1, would > 0 ? 1 : -1));
                    flaws.add(new Flaw(place - 1, would > 0 ? -1 : 1));
                    came += 2;
                    any = true;
                }
            }
            return any;
        }

        int run(Text t, int q, int ticks, int side) {
            int had = 0;
            while (had < ticks && tick(t, q, side, 0)) {
                had++;
            }
            return had;
        }

        boolean put(int place, int sign) {
            if (place < 0 || place > 99 || sign != 1 && sign != -1 || at(place) != null || flaws.size() == 30) {
                return false;
            }
            flaws.add(new Flaw(place, sign));
            return true;
        }
    }

    private ARow row = new ARow();
    private ARow marked = new ARow();
    private final List<ARow> behind = new ArrayList<>();
    private final List<ARow> ahead = new ArrayList<>();

    private void act(ARow before) {
        behind.add(before);
        if (behind.size() > 50) {
            behind.remove(0);
        }
        ahead.clear();
    }

    boolean put(int place, int sign) {
        ARow before = row.copy();
        boolean came = row.put(place, sign);
        if (came) {
            act(before);
        }
        return came;
    }

    int at(int place) {
        return row.at(place) == null ? 0 : row.at(place).sign;
    }

    int feels(int place, int q) {
        return at(place) == 0 || Math.abs((long) q) > 9999 ? -1000000000 : row.feels(text, place, at(place), q);
    }

    int clear() {
        act(row);
        row = new ARow();
        return behind.get(behind.size() - 1).flaws.size();
    }

    void mark() {
        marked = row.copy();
    }

    int back() {
        act(row.copy());
        row.flaws = marked.copy().flaws;
        return row.flaws.size();
    }

    private static boolean badRun(int q, int ticks) {
        return q < -9999 || q > 9999 || ticks < 0 || ticks > 200;
    }

    int run(int q, int ticks, int side) {
        if (badRun(q, ticks) || side < 0 || side > 1) {
            return NONE;
        }
        act(row.copy());
        return row.run(text, q, ticks, side);
    }

    int sure(int q, int ticks) {
        if (badRun(q, ticks)) {
            return NONE;
        }
        ARow low = row.copy();
        ARow high = row.copy();
        low.run(text, q, ticks, 0);
        high.run(text, q, ticks, 1);
        return low.look().equals(high.look()) ? 1 : 0;
    }

    long shape(int step, int plane, int i, int j) {
        boolean bad = step < 0 || step >= text.steps.size() || plane < 0 || plane >= text.planes.size()
            || i < 0 || i > 2 || j < 0 || j > 2;
        return bad ? -1000000000000L : row.slipped * text.steps.get(step)[i] * text.planes.get(plane)[j];
    }

    private List<Integer> aimedAt = List.of();
    private List<Integer> best;
    private int bestSum;

    int aim(int n, int a, int b, int c, int d, int ticks, int aim) {
        if (n < 1 || n > 4 || ticks < 1 || ticks > 20 || aim < -1000 || aim > 1000 || aim == 0) {
            return NONE;
        }
        int[] pulls = Arrays.copyOf(new int[] {a, b, c, d}, n);
        if (Arrays.stream(pulls).anyMatch(v -> v < -9999 || v > 9999)) {
            return NONE;
        }
        best = null;
        for (int length = 1; length <= 5 && best == null; length++) {
            tryAims(pulls, new ArrayList<>(), length, row, ticks, aim);
        }
        if (best == null) {
            return -2;
        }
        aimedAt = best;
        return best.size();
    }

    private void tryAims(int[] pulls, List<Integer> chosen, int more, ARow from, int ticks, int aim) {
        if (more == 0) {
            long slipped = from.slipped - row.slipped;
            int sum = chosen.stream().mapToInt(i -> Math.abs(pulls[i])).sum();
            if ((aim > 0 ? slipped >= aim : slipped <= aim) && (best == null || sum < bestSum)) {
                best = new ArrayList<>(chosen);
                bestSum = sum;
            }
            return;
        }
        for (int i = 0; i < pulls.length; i++) {
            ARow next = from.copy();
            next.run(text, pulls[i], ticks, 1);
            chosen.add(i);
            tryAims(pulls, chosen, more - 1, next, ticks, aim);
            chosen.remove(chosen.size() - 1);
        }
    }

    int aimed(int k) {
        return k < 0 || k >= aimedAt.size() ? NONE : aimedAt.get(k);
    }

    private List<int[]> fits = new ArrayList<>();

    int fit(int n, int a, int b, int c, int step, int q, int ticks) {
        if (n < 1 || n > 3 || step < 1 || step > 100 || badRun(q, ticks)) {
            return NONE;
        }
        int[] ds = Arrays.copyOf(new int[] {a, b, c}, n);
        if (Arrays.stream(ds).distinct().count() < n || Arrays.stream(ds).anyMatch(v -> v < 1 || v > 20)) {
            return NONE;
        }
        fits = new ArrayList<>();
        tryFits(ds, new int[0], step, q, ticks);
        return fits.size();
    }

    private void tryFits(int[] ds, int[] values, int step, int q, int ticks) {
        if (values.length == ds.length) {
            Text t = text.copy();
            for (int i = 0; i < ds.length; i++) {
                t.pushes.put(ds[i], values[i]);
            }
            ARow r = marked.copy();
            r.run(t, q, ticks, 0);
            if (r.look().equals(row.look())) {
                fits.add(values);
            }
            return;
        }
        for (int i = 0; i < 8; i++) {
            int[] more = Arrays.copyOf(values, values.length + 1);
            more[values.length] = i * step;
            tryFits(ds, more, step, q, ticks);
        }
    }

    int fitted(int k, int i) {
        return k < 0 || k >= fits.size() || i < 0 || i >= fits.get(k).length ? NONE : fits.get(k)[i];
    }

    // ---- SIGHTS ----------------------------------------------------------------------------

    int seen(int line, int eye) {
        Line l = there(line);
        return l == null || eye < 0 || eye >= text.eyes.size() ? NONE : dot(l.step, text.eyes.get(eye)) != 0 ? 1 : 0;
    }

    int sight(int eye, boolean seen) {
        if (sights.size() == 20 || eye < 0 || eye >= text.eyes.size()) {
            return NONE;
        }
        sights.add(new Object[] {text.eyes.get(eye), seen});
        return sights.size();
    }

    int forget() {
        int many = sights.size();
        sights.clear();
        return many;
    }

    private List<Integer> fitting() {
        List<Integer> all = new ArrayList<>();
        for (int i = 0; i < text.steps.size(); i++) {
            int[] step = text.steps.get(i);
            if (sights.stream().allMatch(s -> (dot((int[]) s[0], step) != 0) == (Boolean) s[1])) {
                all.add(i);
            }
        }
        return all;
    }

    int readBack(int k) {
        List<Integer> all = fitting();
        return k == NONE ? all.size() : k < 0 || k >= all.size() ? NONE : all.get(k);
    }

    int nextEye() {
        int best = NONE;
        long least = 1000;
        List<Integer> all = fitting();
        for (int e = 0; e < text.eyes.size(); e++) {
            int[] eye = text.eyes.get(e);
            long would = all.stream().filter(i -> dot(text.steps.get(i), eye) != 0).count();
            long greater = Math.max(would, all.size() - would);
            if (greater < least) {
                least = greater;
                best = e;
            }
        }
        return least == all.size() ? NONE : best;
    }

    // ---- THE GRAIN -------------------------------------------------------------------------

    private final List<ARow> grain = new ArrayList<>();
    private final List<int[]> grainPlanes = new ArrayList<>();
    private final List<int[]> grainSteps = new ArrayList<>();
    private int own;
    private int cross;
    private List<Long> curve = new ArrayList<>();

    int system(int plane, int step) {
        if (grain.size() == 8 || shareOf(1, 0, 0, plane, step) == null) {
            return NONE;
        }
        grain.add(new ARow());
        grainPlanes.add(text.planes.get(plane));
        grainSteps.add(text.steps.get(step));
        return grain.size() - 1;
    }

    boolean harder(int own, int cross) {
        if (own < 0 || own > 999 || cross < 0 || cross > 999) {
            return false;
        }
        this.own = own;
        this.cross = cross;
        return true;
    }

    private boolean noSystem(int k) {
        return k < 0 || k >= grain.size();
    }

    boolean fill(int system, int place, int sign) {
        return !noSystem(system) && grain.get(system).put(place, sign);
    }

    private long harderBy(int k) {
        long all = grain.stream().mapToLong(r -> r.went).sum();
        long mine = grain.get(k).went;
        return Math.floorDiv(own * mine + cross * (all - mine), 100L);
    }

    long systems(int k, int what) {
        if (noSystem(k) || what < 0 || what > 6 && what < 100 || what > 199) {
            return -1000000;
        }
        ARow r = grain.get(k);
        if (what >= 100) {
            return r.at(what - 100) == null ? 0 : r.at(what - 100).sign;
        }
        return new long[] {r.flaws.size(), r.slipped, r.went, harderBy(k), r.out, r.lost, r.came}[what];
    }

    private int forceOn(int[] t, int p, int k) {
        int[] n = grainPlanes.get(k);
        int[] b = grainSteps.get(k);
        BigInteger[] s = square(t, n, b);
        int q = big(p).pow(2).multiply(s[0]).divide(s[1]).sqrt().intValueExact();
        return dot(t, n) * dot(t, b) < 0 ? -q : q;
    }

    int pulled(int x, int y, int z, int p, int system) {
        boolean bad = badPull(x, y, z) || p < 0 || p > 9999 || noSystem(system);
        return bad ? -1000000 : forceOn(new int[] {x, y, z}, p, system);
    }

    private int loadBy(int[] t, int p, int steps, int side) {
        for (int had = 0; had < steps; had++) {
            long[] more = new long[grain.size()];
            for (int k = 0; k < more.length; k++) {
                more[k] = harderBy(k);
            }
            boolean any = false;
            for (int k = 0; k < more.length; k++) {
                any |= grain.get(k).tick(text, forceOn(t, p, k), side, more[k]);
            }
            if (!any) {
                return had;
            }
        }
        return steps;
    }

    int load(int x, int y, int z, int p, int steps, int side) {
        if (badPull(x, y, z) || p < 0 || p > 9999 || steps < 0 || steps > 200 || side < 0 || side > 1) {
            return NONE;
        }
        return loadBy(new int[] {x, y, z}, p, steps, side);
    }

    long strain(int x, int y, int z) {
        if (badPull(x, y, z)) {
            return -1000000000000000L;
        }
        long sum = 0;
        int[] t = {x, y, z};
        for (int k = 0; k < grain.size(); k++) {
            sum += grain.get(k).slipped * dot(t, grainPlanes.get(k)) * dot(t, grainSteps.get(k));
        }
        return sum;
    }

    long curve(int x, int y, int z, int first, int by, int n, int m) {
        boolean bad = badPull(x, y, z) || by < -9999 || by > 9999 || n < 1 || n > 20 || m < 1 || m > 50;
        for (int i = 0; i < n && !bad; i++) {
            long p = (long) first + (long) i * by;
            bad = p < 0 || p > 9999;
        }
        if (bad) {
            return -1000000000000000L;
        }
        curve = new ArrayList<>();
        for (int i = 0; i < n; i++) {
            loadBy(new int[] {x, y, z}, first + i * by, m, 1);
            curve.add(strain(x, y, z));
        }
        return curve.get(n - 1);
    }

    long curved(int k) {
        return k < 0 || k >= curve.size() ? -1000000000000000L : curve.get(k);
    }

    long form(int i, int j) {
        if (i < 0 || i > 2 || j < 0 || j > 2) {
            return -1000000000000000L;
        }
        long sum = 0;
        for (int k = 0; k < grain.size(); k++) {
            sum += grain.get(k).slipped * grainSteps.get(k)[i] * grainPlanes.get(k)[j];
        }
        return sum;
    }

    /** First system and how many, of all rows of systems one behind the other. */
    private int[] wallAt(int place) {
        int[] best = {0, 0};
        for (int from = 0; from < grain.size(); from++) {
            for (int to = from; to < grain.size(); to++) {
                boolean one = true;
                for (int k = from; k <= to; k++) {
                    one &= grain.get(k).at(place) != null && grain.get(from).at(place) != null
                        && grain.get(k).at(place).sign == grain.get(from).at(place).sign
                        && Arrays.equals(grainPlanes.get(k), grainPlanes.get(from))
                        && Arrays.equals(grainSteps.get(k), grainSteps.get(from));
                }
                if (one && to - from + 1 > best[1]) {
                    best = new int[] {from, to - from + 1};
                }
            }
        }
        return best;
    }

    int wall(int place) {
        return place < 0 || place > 99 ? NONE : wallAt(place)[1];
    }

    int tilt(int place, int part) {
        if (place < 0 || place > 99 || part < 0 || part > 2) {
            return -100000;
        }
        int[] w = wallAt(place);
        return w[1] == 0 ? 0 : w[1] * grain.get(w[0]).at(place).sign * grainSteps.get(w[0])[part];
    }

    // ---- UNDONE, REDONE, CRACK -------------------------------------------------------------

    boolean undo() {
        if (behind.isEmpty()) {
            return false;
        }
        ahead.add(row);
        row = behind.remove(behind.size() - 1).copy();
        return true;
    }

    boolean redo() {
        if (ahead.isEmpty()) {
            return false;
        }
        behind.add(row);
        row = ahead.remove(ahead.size() - 1).copy();
        return true;
    }

    int shield(int length) {
        if (length < 0 || length > 60) {
            return -1000000000;
        }
        int sum = 0;
        for (Flaw f : row.flaws) {
            if (f.place > length) {
                sum += f.sign * text.push(f.place - length);
            }
        }
        return sum;
    }

    private static boolean badForce(int p) {
        return p < 0 || p > 9999;
    }

    int crack(int length, int k, int low, int high) {
        if (length < 0 || length > 60 || k < -9999 || k > 9999 || badForce(low) || badForce(high) || low > high) {
            return NONE;
        }
        int left = k - shield(length);
        return left > high ? 1 : left <= low ? 0 : 2;
    }

    int runsTo(int length, int k, int toughness, int fall) {
        if (length < 0 || length > 60 || k < -9999 || k > 9999 || badForce(toughness) || fall < 0 || fall > 999) {
            return NONE;
        }
        if (length == 60 || at(length + 1) != 0 || k - shield(length) <= toughness) {
            return length;
        }
        int now = length;
        for (int left = k; now < 60; left -= fall) {
            if (left - shield(now) <= toughness || at(now + 1) != 0) {
                break;
            }
            now++;
        }
        return now;
    }

    long count(int what) {
        long there = lines.stream().filter(l -> !l.gone).count();
        long[] all = {text.steps.size(), text.planes.size(), text.eyes.size(), knots.size(), there, row.flaws.size(),
            row.slipped, row.work, row.out, row.lost, row.came, tape.length(), sights.size(), grain.size(), behind.size()};
        return what < 0 || what >= all.length ? NONE : all[what];
    }
}
