import java.nio.file.Files;
import java.nio.file.Path;
import java.util.LinkedHashMap;
import java.util.Map;

/**
 * What the tests of single sentences share. Each of them quotes its sentence: the quote must stand in the document,
 * and at the end each word of the document must have been quoted by one test at least.
 */
abstract class Bounds {
    static final int NONE = -1;
    static final int MIN = Integer.MIN_VALUE;
    static final int MAX = Integer.MAX_VALUE;

    private static final Map<String, String> TEXTS = new LinkedHashMap<>();
    private static final Map<String, boolean[]> QUOTED = new LinkedHashMap<>();
    private static String section = "";
    private static String sentence = "";
    static int tests = 0;
    static int asked = 0;
    static int wrong = 0;

    /** A test of one sentence, which checks nothing itself but by due() and its like. */
    interface Test {
        void run();
    }

    // ---- the document

    static void readDocument() throws Exception {
        String all = Files.readString(Path.of("../shared/DOC.md")).replaceAll("```\\w*", " ").replaceAll("\\s+", " ");
        String use = all.substring(all.indexOf("An object is used"), all.indexOf(" ## The public face"));
        keep("use", use);
        String terms = all.substring(all.indexOf("## Terms") + 8, all.indexOf("## Promise 1:"));
        String[] parts = terms.split(" ==== [IV]+\\.");
        String[] names = {"I", "II", "III", "IV", "V", "VI", "VII"};
        if (parts.length != names.length) {
            fail("the document's terms have " + parts.length + " parts");
        }
        for (int i = 0; i < names.length && i < parts.length; i++) {
            keep(names[i], parts[i]);
        }
        String promises = all.substring(all.indexOf("## Promise 1:"), all.indexOf("## Not promised"));
        for (String one : promises.split("## Promise ")) {
            if (!one.isBlank()) {
                int name = one.indexOf(':');
                int text = one.indexOf("`:", one.indexOf('`') + 1);
                keep(one.substring(0, name), one.substring(text + 2));
            }
        }
    }

    private static void keep(String name, String text) {
        TEXTS.put(name, text);
        QUOTED.put(name, new boolean[text.length()]);
    }

    /** The sections of the document are "I" to "VII" (the terms), "1" to "55" (the promises) and "use". */
    static void test(String of, String quote, Test body) {
        section = of;
        sentence = quote;
        tests++;
        String text = TEXTS.getOrDefault(of, "");
        int at = text.indexOf(quote);
        if (at < 0) {
            fail("the document does not say so there");
            return;
        }
        for (; at >= 0; at = text.indexOf(quote, at + 1)) {
            java.util.Arrays.fill(QUOTED.get(of), at, at + quote.length(), true);
        }
        int before = asked;
        body.run();
        if (asked == before) {
            fail("its test asks nothing");
        }
    }

    static void nothingIsLeftOut() {
        for (String name : TEXTS.keySet()) {
            String text = TEXTS.get(name);
            StringBuilder left = new StringBuilder();
            for (int i = 0; i < text.length(); i++) {
                left.append(QUOTED.get(name)[i] ? '\n' : text.charAt(i));
            }
            for (String piece : left.toString().split("\n+")) {
                if (piece.matches("(?s).*[A-Za-z0-9].*")) {
                    section = name;
                    sentence = piece.trim();
                    fail("no test quotes this");
                }
            }
        }
    }

    // ---- what is due

    static void fail(String why) {
        wrong++;
        System.out.println(section + ": \"" + sentence + "\"\n    " + why);
    }

    static void due(String call, long got, long want) {
        asked++;
        if (got != want) {
            fail(call + " answered " + got + ", due is " + want);
        }
    }

    static void due(String call, boolean got, boolean want) {
        asked++;
        if (got != want) {
            fail(call + " answered " + got + ", due is " + want);
        }
    }

    static void same(String what, String got, String want) {
        asked++;
        if (!got.equals(want)) {
            fail(what + " came to\n    " + got + ", due is\n    " + want);
        }
    }

    // ---- texts

    static void feedOnly(SlidingFlaws x, String text) {
        for (int i = 0; i < text.length(); i += 20) {
            int[] five = new int[5];
            for (int b = 0; b < 20; b++) {
                int sign = i + b < text.length() ? text.charAt(i + b) : 0;
                five[b / 4] = five[b / 4] << 8 | sign;
            }
            x.feed(five[0], five[1], five[2], five[3], five[4]);
        }
    }

    static int tell(SlidingFlaws x, String text) {
        int had = (int) x.count(11);
        feedOnly(x, text);
        x.end(had + text.length());
        return x.read();
    }

    static SlidingFlaws of(String text) {
        SlidingFlaws x = new SlidingFlaws();
        if (tell(x, text) < 0) {
            fail("not read: " + text);
        }
        return x;
    }

    static void reads(String text, int statements) {
        due("read() of \"" + text + "\"", tell(new SlidingFlaws(), text), statements);
    }

    static void fault(String text, int place, int kind) {
        due("read() of \"" + text + "\"", tell(new SlidingFlaws(), text), -2 - (1 + 8 * place + kind));
    }

    static String times(int n, String text) {
        StringBuilder all = new StringBuilder();
        for (int i = 0; i < n; i++) {
            all.append(i > 0 ? ";" : "").append(text);
        }
        return all.toString();
    }

    // ---- rows

    static void put(SlidingFlaws x, String flaws) {
        for (String f : flaws.split(" ")) {
            if (!f.isEmpty() && !x.put(Integer.parseInt(f.substring(0, f.length() - 1)), f.endsWith("+") ? 1 : -1)) {
                fail("not put: " + f);
            }
        }
    }

    static void fill(SlidingFlaws x, int system, String flaws) {
        for (String f : flaws.split(" ")) {
            int sign = f.endsWith("+") ? 1 : -1;
            if (!f.isEmpty() && !x.fill(system, Integer.parseInt(f.substring(0, f.length() - 1)), sign)) {
                fail("not filled: " + f);
            }
        }
    }

    /** The flaws as put() above takes them. */
    static String row(SlidingFlaws x) {
        StringBuilder all = new StringBuilder();
        for (int p = 0; p < 100; p++) {
            append(all, p, x.at(p));
        }
        return all.toString();
    }

    private static void append(StringBuilder all, int place, long sign) {
        if (sign != 0) {
            all.append(all.length() > 0 ? " " : "").append(place).append(sign == 1 ? "+" : sign == -1 ? "-" : "?" + sign);
        }
    }

    static String rowOf(SlidingFlaws x, int system) {
        StringBuilder all = new StringBuilder();
        for (int p = 0; p < 100; p++) {
            append(all, p, x.systems(system, 100 + p));
        }
        return all.toString();
    }

    /** Flaws, SLIPPED, WORK, OUT, LOST and what came. */
    static void counts(SlidingFlaws x, long flaws, long slipped, long work, long out, long lost, long came) {
        long[] due = {flaws, slipped, work, out, lost, came};
        for (int i = 0; i < due.length; i++) {
            due("count(" + (5 + i) + ")", x.count(5 + i), due[i]);
        }
    }

    /** A row of some flaws, by some text, and what a run of it comes to. */
    static SlidingFlaws ran(String text, String flaws, int q, int ticks, int side, int had, String becomes) {
        SlidingFlaws x = of(text);
        put(x, flaws);
        String call = "run(" + q + ", " + ticks + ", " + side + ") of " + flaws;
        due(call, x.run(q, ticks, side), had);
        same(call, row(x), becomes);
        return x;
    }

    /** Some flaws side by side, as put() above takes them. */
    static String flaws(int from, int many, String sign) {
        StringBuilder all = new StringBuilder();
        for (int i = 0; i < many; i++) {
            all.append(i > 0 ? " " : "").append(from + i).append(sign);
        }
        return all.toString();
    }
}
