/** For each promise of the document: ordinary calls, the edges that it names, and wrong ones. */
public final class PromisesTest {
    private static int wrong = 0;
    private static int asked = 0;
    private static int promise = 0;

    private static void due(String call, long got, long want) {
        asked++;
        if (got != want) {
            wrong++;
            System.out.println("promise " + promise + ": " + call + " answered " + got + ", due is " + want);
        }
    }

    private static void due(String call, boolean got, boolean want) {
        due(call, got ? 1 : 0, want ? 1 : 0);
    }

    private static int feed(SlidingFlaws x, String text) {
        int had = (int) x.count(11);
        for (int i = 0; i < text.length(); i += 20) {
            int[] five = new int[5];
            for (int b = 0; b < 20; b++) {
                int sign = i + b < text.length() ? text.charAt(i + b) : 0;
                five[b / 4] = five[b / 4] << 8 | sign;
            }
            x.feed(five[0], five[1], five[2], five[3], five[4]);
        }
        return x.end(had + text.length());
    }

    private static int tell(SlidingFlaws x, String text) {
        feed(x, text);
        return x.read();
    }

    private static SlidingFlaws of(String text) {
        SlidingFlaws x = new SlidingFlaws();
        if (tell(x, text) < 0) {
            wrong++;
            System.out.println("promise " + promise + ": not read: " + text);
        }
        return x;
    }

    private static void readDue(String text, int place, int kind) {
        due("read() of \"" + text + "\"", tell(new SlidingFlaws(), text), -2 - (1 + 8 * place + kind));
    }

    private static String times(int n, String text) {
        StringBuilder all = new StringBuilder();
        for (int i = 0; i < n; i++) {
            all.append(i > 0 ? ";" : "").append(text);
        }
        return all.toString();
    }

    // A row and what is counted of it, as one text.
    private static String look(SlidingFlaws x) {
        StringBuilder all = new StringBuilder();
        for (int p = 0; p < 100; p++) {
            all.append(x.at(p) == 0 ? '.' : x.at(p) > 0 ? '+' : '-');
        }
        for (int what = 5; what <= 10; what++) {
            all.append(' ').append(x.count(what));
        }
        return all.toString();
    }

    private static void same(String call, String got, String want) {
        asked++;
        if (!got.equals(want)) {
            wrong++;
            System.out.println("promise " + promise + ": " + call + "\n  came to " + got + "\n  due is  " + want);
        }
    }

    private static void newObject() {
        SlidingFlaws x = new SlidingFlaws();
        for (int what = 0; what <= 14; what++) {
            due("count(" + what + ")", x.count(what), 0);
        }
        for (int p = 0; p < 100; p++) {
            due("at(" + p + ")", x.at(p), 0);
            due("hold", x.hold(p, 0) + x.hold(p, 1), 0);
        }
        for (int d = -1; d <= 21; d++) {
            due("push(" + d + ")", x.push(d), 0);
        }
        due("told", x.told(0, 0, 0), -100);
        due("unsound", x.unsound(), -1);
        due("group", x.group(0), -1);
        due("aimed", x.aimed(0), -1);
        due("fitted", x.fitted(0, 0), -1);
        due("curved", x.curved(0), -1000000000000000L);
        due("undo", x.undo(), false);
        due("redo", x.redo(), false);
        due("back", x.back(), 0);
        due("NONE", SlidingFlaws.NONE, -1);
    }

    private static void feeding() {
        SlidingFlaws x = new SlidingFlaws();
        for (int i = 1; i <= 20; i++) {
            due("feed", x.feed(-1, 0, 0x20202020, 1, 2), 20 * i);
        }
        due("feed beyond 400", x.feed(0, 0, 0, 0, 0), -1);
        due("bytes", x.count(11), 400);
        x.end(381);
        due("feed beyond 400 by one", x.feed(0, 0, 0, 0, 0), -1);
        due("bytes", x.count(11), 381);
        x.end(380);
        due("feed to 400", x.feed(0, 0, 0, 0, 0), 400);
        x = new SlidingFlaws();
        x.feed(0x73746570, 0x20312032, 0x2033ffff, -1, -1);
        x.end(10);
        due("highest byte first", x.read(), 1);
        due("its parts", 100 * x.told(0, 0, 0) + 10 * x.told(0, 0, 1) + x.told(0, 0, 2), 123);
        x.feed(0, 0, 0, 0, -16777216);
        x.end(17);
        due("byte 255 after 16 noughts", x.read(), -2 - 1);
    }

    private static void ending() {
        SlidingFlaws x = new SlidingFlaws();
        due("end(0) of none", x.end(0), 0);
        due("end(1) of none", x.end(1), -1);
        feed(x, "step 1 0 0");
        due("end(11) of 10", x.end(11), -1);
        due("end(-1)", x.end(-1), -1);
        due("end(MIN)", x.end(Integer.MIN_VALUE), -1);
        due("bytes", x.count(11), 10);
        due("end(10) of 10", x.end(10), 10);
        due("end(5)", x.end(5), 5);
        due("bytes", x.count(11), 5);
        due("end(6) then", x.end(6), -1);
        due("end(0)", x.end(0), 0);
    }

    private static void readingWell() {
        SlidingFlaws x = new SlidingFlaws();
        due("an empty text", x.read(), 0);
        due("blanks alone", tell(x, "    "), 0);
        due("one", tell(x, "step 1 2 3"), 1);
        due("blanks about", tell(x, "  step  1   2 3  ;   eye 0 0 1  "), 2);
        due("no blanks about ;", tell(x, "push 1 2;push 2 3;base 1 2"), 3);
        due("bounds", tell(x, "step -9 9 0;plane 9 -9 0;eye 0 0 -9;push 1 0;push 20 999;speck 0 0 0;"
            + "speck 99 9999 9999;source 1 0;source 98 9999;base 0 9999"), 10);
        due("noughts ahead", tell(x, "step 0001 -000 -009"), 1);
        due("part x", x.told(0, 0, 0), 1);
        due("part z", x.told(0, 0, 2), -9);
        due("high and low alike", tell(x, "base 5 5;speck 1 6 6"), 2);
        due("a speck and a source at one place", tell(x, "speck 5 1 2;source 5 3"), 2);
        due("the tape is empty", x.count(11), 0);
        tell(x, "step 1 1 1;push 3 4;speck 4 5 6;source 50 7;base 8 9;eye 1 0 0;plane 1 0 0");
        due("sight", x.sight(0, true), 1);
        due("a fault", tell(x, "step 2 2 2;q"), -2 - (1 + 8 * 11));
        due("the tape is empty behind a fault, too", x.count(11), 0);
        due("what was read stays: step", x.told(0, 0, 0), 1);
        due("push", x.push(3), 4);
        due("speck", x.hold(4, 1), 6);
        due("base", x.hold(5, 1), 9);
        due("sights", x.count(12), 1);
        x.put(10, 1);
        x.knot(false);
        due("read again", tell(x, "step 2 2 2"), 1);
        due("step", x.told(0, 0, 0), 2);
        due("no other step", x.count(0), 1);
        due("no plane", x.count(1), 0);
        due("no eye", x.count(2), 0);
        due("no push", x.push(3), 0);
        due("no speck", x.hold(4, 1), 0);
        due("no base", x.hold(5, 1), 0);
        due("no source", x.run(9999, 1, 0), 1);
        due("what came", x.count(10), 0);
        due("sights are gone", x.count(12), 0);
        due("the row stays", x.at(11), 1);
        due("knots stay", x.count(3), 1);
        due("an empty text takes the place, too", x.read(), 0);
        due("steps", x.count(0), 0);
    }

    private static void readingFaults() {
        readDue("x", 0, 0);
        readDue(";", 0, 0);
        readDue(" ;", 1, 0);
        readDue("Step 1 0 0", 0, 0);
        readDue("steps 1 0 0", 0, 0);
        readDue("ste 1 0 0", 0, 0);
        readDue("stepz 1 0 0", 0, 0);
        readDue("zstep 1 0 0", 0, 0);
        readDue("step{1 0 0", 4, 0);
        readDue("step`1 0 0", 4, 0);
        readDue("step 1 0 :", 9, 0);
        readDue("step 1 0 /", 9, 0);
        readDue("ste", 0, 0);
        readDue("stepX 1 0 0", 4, 0);
        readDue("step1 0 0", 4, 0);
        readDue("step", 4, 0);
        readDue("step ", 5, 0);
        readDue("step;", 4, 0);
        readDue("step ;", 5, 0);
        readDue("step 1 0", 8, 0);
        readDue("step 1 0;", 8, 0);
        readDue("step 1 0 ", 9, 0);
        readDue("step 1 0 0 0", 11, 0);
        readDue("step 1 0 0 12345", 11, 0);
        readDue("step 1 0 0x", 10, 0);
        readDue("step 1 0 0 eye 1 0 0", 11, 0);
        readDue("step 1 0 0-", 10, 0);
        readDue("step 1-1 0", 6, 0);
        readDue("step 1 0 0;", 11, 0);
        readDue("step 1 0 0; ", 12, 0);
        readDue("step 1 0 0;;", 11, 0);
        readDue("step 1 - 0", 8, 0);
        readDue("step 1 -", 8, 0);
        readDue("step 1 --1 0", 8, 0);
        readDue("step 1 -x 0", 8, 0);
        readDue("step +1 0 0", 5, 0);
        readDue("step\t1 0 0", 4, 0);
        readDue("step 1\u00a00 0", 6, 0);
        readDue("\u0000", 0, 0);
        readDue("step 10 0 0", 5, 1);
        readDue("step -10 0 0", 5, 1);
        readDue("step 1 10 0", 7, 1);
        readDue("step 1 0 -10", 9, 1);
        readDue("step 00001 0 0", 5, 1);
        readDue("step -00001 0 0", 5, 1);
        readDue("step 0 00000 0", 7, 1);
        readDue("step 99999999999999999999 0 0", 5, 1);
        readDue("plane 0 0 -10", 10, 1);
        readDue("eye 0 11 0", 6, 1);
        readDue("push 0 1", 5, 1);
        readDue("push 21 1", 5, 1);
        readDue("push 1 1000", 7, 1);
        readDue("push 1 -1", 7, 1);
        readDue("speck 100 1 2", 6, 1);
        readDue("speck -1 1 2", 6, 1);
        readDue("speck 1 10000 2", 8, 1);
        readDue("speck 1 -1 2", 8, 1);
        readDue("speck 1 1 10000", 10, 1);
        readDue("speck 1 1 -1", 10, 1);
        readDue("source 0 1", 7, 1);
        readDue("source 99 1", 7, 1);
        readDue("source 1 10000", 9, 1);
        readDue("source 1 -1", 9, 1);
        readDue("base -1 1", 5, 1);
        readDue("base 1 -1", 7, 1);
        readDue("base 1 10000", 7, 1);
        readDue("step 0 0 0", 5, 2);
        readDue("step 0 -0 0000 x", 5, 2);
        readDue("plane 0 0 0", 6, 2);
        readDue("eye 0 0 0", 4, 2);
        readDue("step 0 0 x", 9, 0);
        readDue("speck 1 5 4", 10, 2);
        readDue("base 5 4x", 7, 2);
        readDue("push 5 1;push 5 1", 14, 3);
        readDue("push 5 1;push 5 x", 14, 3);
        readDue("push 5 1;push 5", 14, 3);
        readDue("push 5 1;push 6 1000;push 5 1", 16, 1);
        readDue("speck 5 1 2;speck 5 1 2", 18, 3);
        readDue("source 5 1;source 5 1", 18, 3);
        readDue("base 1 2;base 1 2", 9, 3);
        readDue("base 1 2;base1 2", 9, 3);
        readDue(times(17, "step 1 0 0"), 16 * 11, 4);
        readDue(times(17, "plane 1 0 0"), 16 * 12, 4);
        readDue(times(17, "eye 1 0 0"), 16 * 10, 4);
        readDue(times(16, "eye 1 0 0") + ";eye", 16 * 10, 4);
        due("sixteen steps", tell(new SlidingFlaws(), times(16, "step 1 0 0")), 16);
        due("sixteen planes", tell(new SlidingFlaws(), times(16, "plane 1 0 0")), 16);
        due("sixteen eyes", tell(new SlidingFlaws(), times(16, "eye 1 0 0")), 16);
        manyOfASort();
        manyStatements();
    }

    private static void manyOfASort() {
        StringBuilder specks = new StringBuilder();
        for (int i = 0; i < 20; i++) {
            specks.append(i > 0 ? ";" : "").append("speck ").append(i).append(" 1 1");
        }
        due("twenty specks", tell(new SlidingFlaws(), specks.toString()), 20);
        readDue(specks + ";speck 20 1 1", specks.length() + 1, 4);
        String sources = "source 1 1;source 2 1;source 3 1;source 4 1;source 5 1";
        due("five sources", tell(new SlidingFlaws(), sources), 5);
        readDue(sources + ";source 6 1", sources.length() + 1, 4);
        StringBuilder pushes = new StringBuilder();
        for (int d = 20; d >= 1; d--) {
            pushes.append(d < 20 ? ";" : "").append("push ").append(d).append(' ').append(d);
        }
        SlidingFlaws x = new SlidingFlaws();
        due("twenty pushes", tell(x, pushes.toString()), 20);
        due("the last", x.push(1), 1);
        due("the first", x.push(20), 20);
        readDue(pushes + ";push 1 1", pushes.length() + 6, 3);
    }

    private static void manyStatements() {
        StringBuilder all = new StringBuilder("base 0 0");
        for (int d = 1; d <= 20; d++) {
            all.append(";push ").append(d).append(" 0");
        }
        all.append(";").append(times(16, "eye 1 0 0")).append(";").append(times(3, "step 1 0 0"));
        due("forty", tell(new SlidingFlaws(), all.toString()), 40);
        int place = all.length() + 1;
        readDue(all + ";eye", place, 4);
        readDue(all + ";step", place, 4);
        readDue(all + ";base", place, 3);
        readDue(all + ";q", place, 0);
        readDue(all + ";", place, 0);
    }

    private static void telling() {
        SlidingFlaws x = of("step 1 2 3;step -4 -5 -6;plane 7 8 9;eye -9 0 1");
        due("step 1", x.told(0, 1, 1), -5);
        due("plane", x.told(1, 0, 0), 7);
        due("plane", x.told(1, 0, 2), 9);
        due("eye", x.told(2, 0, 0), -9);
        int[][] without = {{0, 2, 0}, {0, -1, 0}, {1, 1, 0}, {2, 1, 0}, {3, 0, 0}, {-1, 0, 0}, {0, 0, 3}, {0, 0, -1},
            {0, Integer.MAX_VALUE, 0}, {0, Integer.MIN_VALUE, 0}};
        for (int[] w : without) {
            due("told without it", x.told(w[0], w[1], w[2]), -100);
        }
    }

    private static void pushing() {
        SlidingFlaws x = of("push 1 999;push 20 7;push 4 0");
        due("push(1)", x.push(1), 999);
        due("push(20)", x.push(20), 7);
        for (int d : new int[] {0, 2, 4, 19, 21, -1, Integer.MIN_VALUE, Integer.MAX_VALUE}) {
            due("push(" + d + ")", x.push(d), 0);
        }
    }

    private static void holding() {
        SlidingFlaws x = of("speck 0 3 4;base 1 2;speck 99 5 6");
        due("hold(0, 0)", x.hold(0, 0), 3);
        due("hold(0, 1)", x.hold(0, 1), 4);
        due("hold(99, 0)", x.hold(99, 0), 5);
        due("hold(99, 1)", x.hold(99, 1), 6);
        due("hold(1, 0)", x.hold(1, 0), 1);
        due("hold(98, 1)", x.hold(98, 1), 2);
        due("place 100", x.hold(100, 0), -1);
        due("place -1", x.hold(-1, 0), -1);
        due("side 2", x.hold(5, 2), -1);
        due("side -1", x.hold(5, -1), -1);
    }

    private static void knots() {
        SlidingFlaws x = new SlidingFlaws();
        for (int i = 0; i < 60; i++) {
            due("knot", x.knot(i % 2 == 0), i);
        }
        due("a sixty-first", x.knot(true), -1);
        due("count(3)", x.count(3), 60);
    }

    private static void linesTold() {
        SlidingFlaws x = new SlidingFlaws();
        due("no knots", x.line(0, 1, 1, 0, 0), -1);
        x.knot(false);
        x.knot(true);
        due("bounds", x.line(0, 1, -99, 99, 99), 0);
        int[][] refused = {{0, 0, 1, 0, 0}, {0, 2, 1, 0, 0}, {2, 0, 1, 0, 0}, {-1, 0, 1, 0, 0}, {0, -1, 1, 0, 0},
            {0, 1, 0, 0, 0}, {0, 1, 100, 0, 0}, {0, 1, -100, 0, 0}, {0, 1, 0, 100, 0}, {0, 1, 0, 0, -100},
            {0, 1, Integer.MIN_VALUE, 1, 1}};
        for (int[] r : refused) {
            due("refused", x.line(r[0], r[1], r[2], r[3], r[4]), -1);
        }
        for (int i = 1; i < 120; i++) {
            due("line", x.line(i % 2, 1 - i % 2, 0, 0, i % 99 + 1), i);
        }
        due("120 were told", x.line(0, 1, 1, 0, 0), -1);
        due("count(4)", x.count(4), 120);
        x = new SlidingFlaws();
        x.knot(false);
        x.knot(false);
        for (int i = 0; i < 60; i++) {
            x.line(0, 1, 1, 0, 0);
            x.line(0, 1, -1, 0, 0);
            due("both go", x.meet(2 * i, 2 * i + 1), 1);
        }
        due("none is there", x.count(4), 0);
        due("but 120 were told", x.line(0, 1, 1, 0, 0), -1);
    }

    private static void linesAsked() {
        SlidingFlaws x = new SlidingFlaws();
        x.knot(false);
        x.knot(false);
        x.line(1, 0, -3, 4, 99);
        int[] due = {-3, 4, 99, 1, 0, 9 + 16 + 9801};
        for (int what = 0; what < 6; what++) {
            due("lines(0, " + what + ")", x.lines(0, what), due[what]);
        }
        due("another what", x.lines(0, 6), -1000);
        due("another what", x.lines(0, -1), -1000);
        due("no line", x.lines(1, 0), -1000);
        due("no line", x.lines(-1, 0), -1000);
        x.line(0, 1, -3, 4, 99);
        x.meet(0, 1);
        due("a line that went", x.lines(1, 3), -1000);
        due("a line that went, too", x.lines(0, 5), -1000);
    }

    private static void sums() {
        SlidingFlaws x = new SlidingFlaws();
        x.knot(false);
        x.knot(false);
        x.knot(true);
        x.line(0, 1, 1, 2, 3);
        x.line(2, 0, 10, 20, 30);
        due("sum(0, 0)", x.sum(0, 0), -9);
        due("sum(0, 1)", x.sum(0, 1), -18);
        due("sum(0, 2)", x.sum(0, 2), -27);
        due("sum(1, 2)", x.sum(1, 2), -3);
        due("sum(2, 1)", x.sum(2, 1), 20);
        due("no knot", x.sum(3, 0), -100000);
        due("no knot", x.sum(-1, 0), -100000);
        due("no part", x.sum(0, 3), -100000);
        due("no part", x.sum(0, -1), -100000);
        x.line(1, 0, -1, -2, -3);
        due("turned", x.sum(0, 0), -8);
        due("met", x.meet(0, 2), 0);
        x.line(1, 0, 1, 2, 3);
        due("met", x.meet(0, 3), 1);
        due("gone lines don't count", x.sum(1, 0), -1);
    }

    private static void meetingInSpace() {
        SlidingFlaws x = of("step 1 2 3;step 4 1 2;step -2 3 1;step 3 3 3");
        x.knot(false);
        x.knot(false);
        x.line(0, 1, 1, 2, 3);
        x.line(1, 0, 2, 3, 5);
        due("met", x.meet(0, 1), 1);
        due("x", x.lines(0, 0), -1);
        due("y", x.lines(0, 1), -1);
        due("z", x.lines(0, 2), -2);
        x.line(0, 1, 0, 0, 3);
        x.line(0, 1, 0, 0, 2);
        due("in z not less", x.meet(2, 3), 0);
        x.line(0, 1, 0, 0, -5);
        due("in z less", x.meet(2, 4), 1);
        due("z", x.lines(2, 2), -2);
        promise = 14;
        x.line(0, 1, 5, 3, 5);
        due("a third that is none", x.part(5, 2, false), -2);
        due("a and b", x.part(5, 1, false), 6);
        due("a x", x.lines(5, 0), 4);
        due("a y", x.lines(5, 1), 1);
        due("a z", x.lines(5, 2), 2);
        due("b x", x.lines(6, 0), 1);
        due("b y", x.lines(6, 1), 2);
        due("b z", x.lines(6, 2), 3);
        x.line(0, 1, -3, -1, 1);
        due("not less in all three", x.part(7, 0, true), -2);
        promise = 15;
        x.line(1, 0, -2, 2, -1);
        x.line(0, 1, 1, -2, 2);
        x.line(0, 1, 0, 3, 0);
        due("sums in all three", x.least(0, 1 << 8 | 1 << 9 | 1 << 10), 9 + 9 + 9);
        x.line(0, 1, 2, 3, 2);
        due("with one way turned", x.least(0, 1 << 8 | 1 << 11), 17 + 9);
        x.line(1, 0, 0, 1, 4);
        due("as they go from the knot", x.least(0, 1 << 11 | 1 << 12), 17 + 17);
        x.line(0, 1, -5, 0, -1);
        due("one turned", x.least(0, 1 << 8 | 1 << 13), 9 + 26);
        x.line(0, 1, -4, 2, 0);
        due("no step", x.least(0, 1 << 8 | 1 << 14), 9 + 20);
        x.line(0, 1, -3, 1, 1);
        x.line(0, 1, 1, 2, 0);
        due("a step", x.least(0, 3 << 15), 14);
        x.line(1, 0, 3, -1, -1);
        due("a step, one line going there", x.least(0, 3 << 16), 14);
        due("at the other knot", x.least(1, 3 << 16), 14);
        promise = 14;
        x = of("step 1 0 0;step 0 1 0;step 0 0 1");
        x.knot(false);
        x.knot(false);
        x.line(0, 1, -1, 0, 1);
        x.line(0, 1, 0, -1, 1);
        x.line(0, 1, 1, 0, -1);
        due("as much, x below 0", x.part(0, 2, false), -2);
        due("as much, y below 0", x.part(1, 2, false), -2);
        due("as much, z below 0", x.part(2, 0, false), -2);
    }

    private static void soundness() {
        SlidingFlaws x = new SlidingFlaws();
        due("no knots", x.unsound(), -1);
        x.knot(true);
        x.knot(false);
        x.knot(false);
        due("no lines", x.unsound(), -1);
        x.line(0, 1, 1, 0, 0);
        due("the first inside", x.unsound(), 1);
        x.line(1, 2, 1, 0, 0);
        due("the next", x.unsound(), 2);
        x.line(2, 0, 1, 0, 1);
        due("in z alone", x.unsound(), 2);
        x.line(0, 2, 0, 0, 1);
        due("sound", x.unsound(), -1);
        x.line(1, 2, 0, 1, 0);
        due("in y alone", x.unsound(), 1);
    }

    private static void meeting() {
        SlidingFlaws x = new SlidingFlaws();
        x.knot(false);
        x.knot(false);
        x.knot(false);
        x.line(0, 1, 1, 1, 0);
        x.line(0, 1, 1, -1, 0);
        x.line(0, 1, -1, 0, 0);
        x.line(1, 0, 1, 0, 0);
        x.line(0, 2, 1, 0, 0);
        x.line(2, 1, 1, 0, 0);
        due("not worth less, alike", x.meet(0, 1), 0);
        due("both one", x.meet(0, 0), -1);
        due("other knots", x.meet(0, 4), -1);
        due("other knots", x.meet(0, 5), -1);
        due("other knots", x.meet(4, 5), -1);
        due("no line", x.meet(0, 6), -1);
        due("no line", x.meet(-1, 0), -1);
        due("nothing changed", x.count(4), 6);
        due("the same way", x.meet(0, 2), 1);
        due("x", x.lines(0, 0), 0);
        due("y", x.lines(0, 1), 1);
        due("from", x.lines(0, 3), 0);
        due("second one gone", x.lines(2, 0), -1000);
        due("gone", x.meet(0, 2), -1);
        due("the other way", x.meet(3, 1), 1);
        due("from the first one's", x.lines(3, 3), 1);
        due("y turned", x.lines(3, 1), 1);
        due("x turned", x.lines(3, 0), 0);
        x.line(1, 0, 5, 5, 5);
        due("to nothing", x.meet(3, 0), 1);
        due("first is gone, too", x.lines(3, 0), -1000);
        due("second is gone", x.lines(0, 0), -1000);
        due("count(4)", x.count(4), 3);
        x.line(0, 1, 99, 0, 0);
        x.line(0, 1, 1, 0, 0);
        due("beyond 99", x.meet(7, 8), -2);
        x.line(1, 0, 1, 99, 0);
        due("99 less", x.meet(9, 7), 1);
        due("its x, turned", x.lines(9, 0), -98);
        due("its y", x.lines(9, 1), 99);
        x.line(0, 1, 0, -99, 0);
        x.line(0, 1, -60, -1, 0);
        due("beyond -99, though worth less in x", x.meet(10, 11), -2);
        x.line(0, 1, 0, 98, -98);
        x.line(1, 0, 0, 0, 1);
        due("at -99", x.meet(12, 13), 0);
        x.line(1, 0, 1, -1, 1);
        due("99 and -99, not worth less", x.meet(12, 14), 0);
    }

    private static void parting() {
        SlidingFlaws x = of("step 1 1 0;step 1 -1 0;step 2 0 0;step 0 0 1");
        x.knot(false);
        x.knot(false);
        x.line(1, 0, 2, 2, 0);
        due("no line", x.part(1, 0, false), -1);
        due("no line", x.part(-1, 0, false), -1);
        due("no step", x.part(0, 4, false), -1);
        due("no step", x.part(0, -1, false), -1);
        due("what is left is none", x.part(0, 1, false), -2);
        due("worth as much", x.part(0, 2, false), -2);
        due("nothing changed", x.lines(0, 5), 8);
        due("it parts", x.part(0, 0, false), 1);
        due("the first", x.lines(0, 0), 1);
        due("new one from", x.lines(1, 3), 1);
        due("new one to", x.lines(1, 4), 0);
        due("new one y", x.lines(1, 1), 1);
        x.line(0, 1, 0, 2, 0);
        due("not less", x.part(2, 0, false), -2);
        x.line(0, 1, -2, -2, 0);
        due("turned", x.part(3, 0, true), 4);
        due("turned x", x.lines(3, 0), -1);
        due("left, turned", x.lines(4, 1), -1);
        x.line(0, 1, -3, -1, 0);
        due("not turned", x.part(5, 0, false), -2);
        due("what is left is one turned", x.part(5, 0, true), 6);
        due("it is left", x.lines(6, 0), -2);
        x.line(0, 1, 2, 0, 0);
        due("nothing left is no step", x.part(7, 2, false), -2);
        due("as much is not less", x.part(7, 0, false), -2);
        for (int i = 8; i < 120; i++) {
            x.line(0, 1, 2, 2, 0);
        }
        due("120 were told", x.part(50, 0, false), -1);
        due("120 were told, and not worth less", x.part(7, 0, false), -1);
        due("nothing changed", x.lines(50, 0), 2);
    }

    private static SlidingFlaws knotOfLines() {
        SlidingFlaws x = of("step 1 1 0;step 1 -1 0;step 2 0 0");
        x.knot(false);
        x.knot(true);
        x.line(0, 1, 1, 1, 0);
        x.line(0, 1, 1, -1, 0);
        x.line(1, 0, 2, 0, 0);
        x.line(0, 1, 0, 0, 3);
        return x;
    }

    private static void leasts() {
        SlidingFlaws x = knotOfLines();
        due("all to nothing", x.least(0, 7), 0);
        due("at the other knot", x.least(1, 7), 0);
        due("as much apart", x.least(0, 3), 4);
        due("with one alone", x.least(0, 15), 9);
        due("one turned", x.least(0, 6), 2);
        due("whatever its step, alone", x.least(0, 8 + 1), 11);
        due("one line", x.least(0, 4), -1);
        due("no lines", x.least(0, 0), -1);
        due("a line that isn't there", x.least(0, 17), -1);
        due("no knot", x.least(2, 7), -1);
        due("no knot", x.least(-1, 7), -1);
        x.knot(false);
        due("not at that knot", x.least(2, 7), -1);
        x.line(2, 1, 1, 0, 0);
        due("one not at that knot", x.least(0, 7 + 16), -1);
        due("one at that knot", x.least(1, 7 + 16), 1);
        x = knotOfLines();
        for (int i = 4; i < 70; i++) {
            x.line(0, 1, 3, 0, 0);
        }
        due("eight", x.least(0, 255), 4 * 9 + 9);
        due("nine", x.least(0, 511), -1);
        due("all", x.least(0, -1), -1);
        due("lines 58, 59", x.least(0, 3L << 58), 18);
        due("line 59 alone", x.least(0, 1L << 59), -1);
        for (int bit = 60; bit < 64; bit++) {
            due("bit " + bit + " beside two lines", x.least(0, 1L << bit | 3), -1);
            due("bit " + bit + " beside one line", x.least(0, 1L << bit | 1), -1);
            due("bit " + bit + " beside lines 58, 59", x.least(0, 1L << bit | 3L << 58), -1);
            due("bit " + bit + " alone", x.least(0, 1L << bit), -1);
        }
        due("bits 60 to 63", x.least(0, 15L << 60), -1);
        due("a set below 0", x.least(0, Long.MIN_VALUE + 7), -1);
        due("all that can be", x.least(0, (1L << 60) - 1), -1);
        x = knotOfLines();
        x.line(1, 0, 1, 1, 0);
        x.meet(0, 4);
        due("one that went", x.least(0, 7), -1);
    }

    private static void groupNames(SlidingFlaws x, int... names) {
        for (int i = 0; i < names.length; i++) {
            due("group(" + i + ")", x.group(i), names[i]);
        }
        due("group(" + names.length + ")", x.group(names.length), -1);
        due("group(-1)", x.group(-1), -1);
    }

    private static void groups() {
        SlidingFlaws x = knotOfLines();
        groupNames(x);
        x.least(0, 15);
        groupNames(x, 0, 0, 0, 1);
        x.least(0, 3);
        groupNames(x, 0, 1);
        x.least(0, 1);
        groupNames(x, 0, 1);
        for (int bit = 60; bit < 64; bit++) {
            x.least(0, 1L << bit | 15);
            groupNames(x, 0, 1);
        }
        x.least(0, 12);
        groupNames(x, 0, 1);
        x = of("step 1 0 0");
        x.knot(false);
        x.knot(false);
        x.line(0, 1, 1, 0, 0);
        x.line(0, 1, -1, 0, 0);
        x.line(0, 1, 1, 0, 0);
        x.line(0, 1, -1, 0, 0);
        due("least", x.least(0, 15), 0);
        groupNames(x, 0, 0, 1, 1);
        x.line(0, 1, 0, 5, 0);
        due("least", x.least(0, 16 + 1 + 8), 25);
        groupNames(x, 0, 0, 1);
        due("least", x.least(0, 2 + 1 + 4), 1);
        groupNames(x, 0, 1, 1);
        due("the first of the told ones", x.least(0, 4 + 8 + 16), 25);
        groupNames(x, 0, 0, 1);
        x = of("step 1 0 0;step 2 0 0");
        x.knot(false);
        x.knot(false);
        x.line(0, 1, 1, 0, 0);
        x.line(0, 1, 1, 0, 0);
        x.line(0, 1, -2, 0, 0);
        x.line(0, 1, 3, 0, 0);
        due("less together", x.least(0, 12), 1);
        groupNames(x, 0, 0);
        due("which go", x.least(0, 15), 1 + 1 + 1);
        groupNames(x, 0, 1, 2, 2);
    }

    private static void shares() {
        SlidingFlaws x = of("step 1 1 0;step 1 -1 0;step 2 0 0;step 9 -9 0;plane 0 0 1;plane 1 1 1;plane 9 9 9");
        due("above", x.share(0, 1, 1, 0, 0, 0), 1);
        due("below", x.share(0, 1, 1, 0, 0, 1), 8);
        due("0", x.share(1, 1, 0, 0, 0, 0), 0);
        due("by 1", x.share(1, 1, 0, 0, 0, 1), 1);
        due("lowest terms", x.share(1, 0, 1, 0, 2, 1), 4);
        due("a sign is of no matter", x.share(0, 1, 1, 1, 1, 0), 1);
        due("below", x.share(0, 1, 1, 1, 1, 1), 6);
        due("large", x.share(9, 8, -7, 2, 3, 0), 25);
        due("large", x.share(9, 8, -7, 2, 3, 1), 6 * 97 * 97);
        int[][] without = {{0, 0, 0, 0, 0, 0}, {10, 0, 0, 0, 0, 0}, {0, -10, 0, 0, 0, 0}, {0, 0, 10, 0, 0, 1},
            {1, 0, 0, 3, 0, 0}, {1, 0, 0, -1, 0, 0}, {1, 0, 0, 0, 4, 0}, {1, 0, 0, 0, -1, 0}, {1, 0, 0, 1, 0, 0},
            {1, 0, 0, 0, 0, 2}, {1, 0, 0, 0, 0, -1}};
        for (int[] w : without) {
            due("share without these", x.share(w[0], w[1], w[2], w[3], w[4], w[5]), -1);
        }
    }

    private static void sliding() {
        SlidingFlaws x = of("step 1 1 0;step 1 -1 0;step 2 0 0;plane 0 0 1;plane 1 1 1");
        due("5 against 5", x.slides(1, 0, 1, 0, 2, 10, 5), 0);
        due("5 against 4", x.slides(1, 0, 1, 0, 2, 10, 4), 1);
        due("of the other sign", x.slides(-1, 0, 1, 0, 2, 10, 4), 1);
        due("a root", x.slides(0, 1, 1, 0, 0, 9999, 3535), 1);
        due("a root", x.slides(0, 1, 1, 0, 0, 9999, 3536), 0);
        due("no pull", x.slides(1, 0, 1, 0, 2, 0, 0), 0);
        due("no share", x.slides(1, 1, 0, 0, 0, 9999, 0), 0);
        due("least pull", x.slides(1, 0, 1, 0, 2, 1, 0), 1);
        int[][] without = {{1, 0, 1, 0, 2, 10000, 0}, {1, 0, 1, 0, 2, -1, 0}, {1, 0, 1, 0, 2, 0, 10000},
            {1, 0, 1, 0, 2, 0, -1}, {0, 0, 0, 0, 2, 1, 1}, {1, 0, 1, 1, 0, 1, 1}, {1, 0, 1, 2, 0, 1, 1},
            {1, 0, 1, 0, 3, 1, 1}, {1, 0, 10, 0, 2, 1, 1}};
        for (int[] w : without) {
            due("slides without these", x.slides(w[0], w[1], w[2], w[3], w[4], w[5], w[6]), -1);
        }
    }

    private static void firsts() {
        SlidingFlaws x = of("step 1 0 0;step 0 1 0;step -1 0 0;step 2 0 0;step 1 1 0;plane 0 0 1;plane 1 0 0;plane 0 0 -3");
        due("many", x.first(1, 0, 1, -1), 6);
        int[] all = {0, 2, 3, 32, 34, 35};
        for (int k = 0; k < 6; k++) {
            due("first k " + k, x.first(1, 0, 1, k), all[k]);
        }
        due("behind the last", x.first(1, 0, 1, 6), -1);
        due("k -2", x.first(1, 0, 1, -2), -1);
        due("k MIN", x.first(1, 0, 1, Integer.MIN_VALUE), -1);
        due("none above 0", x.first(0, 0, 1, -1), 0);
        due("none above 0", x.first(0, 0, 1, 0), -1);
        due("no pull", x.first(0, 0, 0, -1), -1);
        due("no pull", x.first(0, -10, 0, 0), -1);
        due("no text", new SlidingFlaws().first(1, 0, 0, -1), 0);
        due("one sign below 0", x.first(1, -5, 1, -1), 3);
        due("in the first plane", x.first(1, -5, 1, 0), 1);
        due("in the second", x.first(1, -5, 1, 1), 17);
        due("in the third", x.first(1, -5, 1, 2), 33);
    }

    private static void puttingAndAt() {
        SlidingFlaws x = new SlidingFlaws();
        due("put(0, 1)", x.put(0, 1), true);
        due("put(99, -1)", x.put(99, -1), true);
        due("one is there", x.put(0, -1), false);
        due("no place", x.put(100, 1), false);
        due("no place", x.put(-1, 1), false);
        due("no sign", x.put(5, 0), false);
        due("no sign", x.put(5, 2), false);
        due("no sign", x.put(5, Integer.MIN_VALUE), false);
        due("count(5)", x.count(5), 2);
        for (int i = 1; i <= 28; i++) {
            due("put", x.put(i, 1), true);
        }
        due("there are 30", x.put(50, 1), false);
        due("count(5)", x.count(5), 30);
        promise = 21;
        due("at(0)", x.at(0), 1);
        due("at(99)", x.at(99), -1);
        due("at(50)", x.at(50), 0);
        due("at(-1)", x.at(-1), 0);
        due("at(100)", x.at(100), 0);
        due("at(MAX)", x.at(Integer.MAX_VALUE), 0);
    }

    private static void feeling() {
        SlidingFlaws x = of("push 1 9;push 2 4;push 20 100");
        x.put(50, 1);
        due("alone", x.feels(50, 7), 7);
        due("alone, below", x.feels(50, -9999), -9999);
        x.put(51, 1);
        due("pushed to the left", x.feels(50, 0), -9);
        due("pushed to the right", x.feels(51, 1), 10);
        x.put(52, -1);
        due("pushed and drawn", x.feels(50, 0), -9 + 4);
        due("drawn to the left, and the pull as well", x.feels(52, 5), -5 - 9 - 4);
        x.put(70, 1);
        due("20 apart", x.feels(70, 0), 100);
        x.put(30, -1);
        due("20 apart on the left", x.feels(50, 0), -9 + 4 - 100 - 100);
        x.put(29, 1);
        due("21 apart", x.feels(50, 0), -9 + 4 - 100 - 100);
        x = of("push 20 1");
        x.put(0, 1);
        x.put(20, 1);
        due("a push of 1, 20 apart", x.feels(20, 0), 1);
        x = of("push 1 9;push 2 4;push 5 1");
        x.put(0, 1);
        x.put(1, -1);
        x.put(6, 1);
        due("at place 0", x.feels(0, 3), 3 + 9);
        due("beside place 0", x.feels(1, 3), -3 - 9 + 1);
        due("a push of 1, 5 apart", x.feels(6, 0), -1);
        x.put(99, 1);
        x.put(98, -1);
        due("at place 99", x.feels(99, 3), 3 - 9);
        due("beside place 99", x.feels(98, 3), -3 + 9);
        due("no flaw", x.feels(49, 0), -1000000000);
        due("no place", x.feels(100, 0), -1000000000);
        due("no place", x.feels(-1, 0), -1000000000);
        due("no pull", x.feels(50, 10000), -1000000000);
        due("no pull", x.feels(50, -10000), -1000000000);
    }

    private static void clearing() {
        SlidingFlaws x = of("source 50 0");
        due("an empty row", x.clear(), 0);
        x.put(0, -1);
        x.put(10, 1);
        x.put(11, -1);
        x.put(20, 1);
        x.run(5, 2, 0);
        due("what came", x.count(10), 4);
        due("clear", x.clear(), 5);
        for (int what = 5; what <= 10; what++) {
            due("count(" + what + ")", x.count(what), 0);
        }
        for (int p = 0; p < 100; p++) {
            due("at", x.at(p), 0);
        }
    }

    private static void marking() {
        SlidingFlaws x = new SlidingFlaws();
        x.put(5, 1);
        due("an empty one at first", x.back(), 0);
        due("at(5)", x.at(5), 0);
        x.put(5, 1);
        x.put(7, -1);
        x.mark();
        due("run", x.run(3, 2, 0), 1);
        due("slipped", x.count(6), 2);
        promise = 25;
        due("back", x.back(), 2);
        due("at(5)", x.at(5), 1);
        due("at(7)", x.at(7), -1);
        due("slipped stays", x.count(6), 2);
        due("work stays", x.count(7), 6);
        due("lost stays", x.count(9), 2);
        promise = 24;
        x.clear();
        x.mark();
        x.put(9, 1);
        due("in place of the mark before", x.back(), 0);
    }

    private static void running() {
        SlidingFlaws x = of("push 1 9;push 2 4;speck 50 10 20;base 1 2");
        x.put(50, 1);
        due("not above the hold", x.run(10, 3, 0), 0);
        due("above it", x.run(11, 1, 0), 1);
        due("at(51)", x.at(51), 1);
        due("by high", x.run(2, 5, 1), 0);
        due("by low", x.run(2, 5, 0), 5);
        due("to the left", x.run(-3, 7, 1), 6);
        due("held at the speck", x.at(50), 1);
        due("slipped", x.count(6), 1 + 5 - 6);
        due("work", x.count(7), 11 + 10 + 18);
        due("no ticks", x.run(99, 0, 0), 0);
        due("out", x.run(9999, 200, 0), 50);
        due("count(8)", x.count(8), 1);
        due("count(5)", x.count(5), 0);
        due("out counts as slipped", x.count(6), 50);
        int[][] without = {{10000, 1, 0}, {-10000, 1, 0}, {0, 201, 0}, {0, -1, 0}, {0, 1, 2}, {0, 1, -1}};
        String before = look(x);
        for (int[] w : without) {
            due("run without these", x.run(w[0], w[1], w[2]), -1);
        }
        same("nothing happened", look(x), before);
    }

    private static void ticks() {
        SlidingFlaws x = of("base 0 0");
        x.put(10, 1);
        x.put(11, 1);
        x.put(12, 1);
        due("one tick", x.run(5, 1, 0), 1);
        same("where one of its sign stands it stays", look(x), row("10+ 11+ 13+") + " 3 1 5 0 0 0");
        x = of("base 0 0");
        x.put(10, 1);
        x.put(11, 1);
        x.put(12, 1);
        x.run(-5, 1, 0);
        same("to the left the first makes room", look(x), row("9+ 10+ 11+") + " 3 -3 15 0 0 0");
        x = of("base 0 0");
        x.put(10, 1);
        x.put(12, -1);
        x.run(5, 1, 0);
        same("the left one goes first, the other meets it", look(x), row("") + " 0 2 10 0 2 0");
        x = of("base 0 0");
        x.put(10, 1);
        x.put(11, -1);
        x.run(5, 1, 0);
        same("one that is gone goes no more", look(x), row("") + " 0 1 5 0 2 0");
        x = of("base 0 0");
        x.put(0, 1);
        x.put(99, -1);
        x.run(-5, 1, 0);
        same("out at both ends", look(x), row("") + " 0 -2 10 2 0 0");
        x = of("push 1 9;base 0 0");
        x.put(50, 1);
        x.put(51, 1);
        x.put(52, 1);
        x.run(0, 9, 0);
        same("what all feel as the tick begins", look(x), row("49+ 51+ 53+") + " 3 0 0 0 0 0");
        x = of("push 1 9;push 2 5;speck 51 100 100;base 1 1");
        x.put(50, 1);
        x.put(51, -1);
        x.run(0, 1, 0);
        same("the held one is lost, too", look(x), row("") + " 0 1 0 0 2 0");
    }

    private static String row(String flaws) {
        StringBuilder all = new StringBuilder(".".repeat(100));
        for (String f : flaws.split(" ")) {
            if (!f.isEmpty()) {
                all.setCharAt(Integer.parseInt(f.substring(0, f.length() - 1)), f.charAt(f.length() - 1));
            }
        }
        return all.toString();
    }

    private static void sources() {
        SlidingFlaws x = of("source 50 30;push 1 5;base 40 40");
        due("not above", x.run(30, 5, 0), 0);
        due("above", x.run(31, 5, 0), 1);
        same("the right one of sign 1", look(x), row("49- 51+") + " 2 0 0 0 0 2");
        x.clear();
        due("not below less its hold", x.run(-30, 5, 0), 0);
        due("below", x.run(-31, 5, 0), 1);
        same("the other way round", look(x), row("49+ 51-") + " 2 0 0 0 0 2");
        for (int place = 49; place <= 51; place++) {
            x.clear();
            x.put(place, 1);
            due("not free at " + place, x.run(39, 5, 0), 0);
        }
        x.clear();
        x.put(48, 1);
        x.put(52, 1);
        due("all free", x.run(31, 5, 0), 1);
        x = of("source 50 0;source 48 0;source 10 0;base 99 99;push 2 7;push 3 50;push 1 1");
        x.run(5, 1, 0);
        same("by places, of all as they stand then", look(x), row("9- 11+ 47- 49+") + " 4 0 0 0 0 4");
        x = of("source 50 0;source 53 0;base 99 99;push 4 4;push 2 3");
        x.run(2, 1, 0);
        same("the second feels what the first gave", look(x), row("49- 51+ 52- 54+") + " 4 0 0 0 0 4");
        x = of("source 50 0;source 53 0;base 99 99;push 4 9;push 2 3");
        x.run(2, 1, 0);
        same("the second feels what the first gave, more", look(x), row("49- 51+ 52+ 54-") + " 4 0 0 0 0 4");
        x = of("source 50 0;source 53 0;base 99 99;push 4 5;push 2 3");
        x.run(2, 1, 0);
        same("just nought", look(x), row("49- 51+") + " 2 0 0 0 0 2");
        x = of("source 50 0;base 99 99;push 4 7");
        due("nought is not above nought", x.run(0, 1, 0), 0);
        for (int i = 0; i < 29; i++) {
            x.put(i < 20 ? i : 60 + i, 1);
        }
        due("29 are too many", x.run(5, 1, 0), 0);
        x.undo();
        x.undo();
        due("28 are not", x.run(5, 1, 0), 1);
        due("30 then", x.count(5), 30);
        x = of("source 1 0;source 98 0;base 99 99");
        x.run(5, 1, 0);
        same("at the ends", look(x), row("0- 2+ 97- 99+") + " 4 0 0 0 0 4");
        x = of("source 50 0;base 4 4");
        x.run(5, 3, 0);
        same("again and again", look(x), row("47- 48- 51+ 53+") + " 4 5 25 0 0 4");
    }

    private static void sureness() {
        SlidingFlaws x = of("base 10 20");
        due("an empty row", x.sure(9999, 200), 1);
        x.put(50, 1);
        String before = look(x);
        due("by low alone", x.sure(11, 1), 0);
        due("by low alone", x.sure(20, 1), 0);
        due("by neither", x.sure(10, 1), 1);
        due("by both", x.sure(21, 1), 1);
        due("no ticks", x.sure(15, 0), 1);
        due("no pull", x.sure(10000, 1), -1);
        due("no pull", x.sure(-10000, 1), -1);
        due("no ticks", x.sure(1, 201), -1);
        due("no ticks", x.sure(1, -1), -1);
        same("nothing happens", look(x), before);
        due("nothing to undo of it", x.count(14), 1);
        x.clear();
        x.put(98, 1);
        due("the row counts, not what is counted of it", x.sure(15, 3), 0);
    }

    private static void shapes() {
        SlidingFlaws x = of("step 1 -2 3;plane 4 5 -6;base 0 0");
        x.put(10, 1);
        x.run(5, 7, 0);
        due("shape x x", x.shape(0, 0, 0, 0), 28);
        due("shape y z", x.shape(0, 0, 1, 2), 7 * 12);
        due("shape z y", x.shape(0, 0, 2, 1), 7 * 15);
        x.run(-5, 9, 0);
        due("shape below", x.shape(0, 0, 2, 1), -2 * 15);
        int[][] without = {{1, 0, 0, 0}, {-1, 0, 0, 0}, {0, 1, 0, 0}, {0, -1, 0, 0}, {0, 0, 3, 0}, {0, 0, -1, 0},
            {0, 0, 0, 3}, {0, 0, 0, -1}};
        for (int[] w : without) {
            due("shape without these", x.shape(w[0], w[1], w[2], w[3]), -1000000000000L);
        }
    }

    private static void aiming() {
        SlidingFlaws x = of("base 1 4");
        x.put(50, 1);
        String before = look(x);
        due("by high nothing goes", x.aim(1, 4, 0, 0, 0, 20, 1), -2);
        due("aimed then", x.aimed(0), -1);
        due("one pull", x.aim(2, 4, 5, 0, 0, 3, 3), 1);
        due("aimed(0)", x.aimed(0), 1);
        due("aimed(1)", x.aimed(1), -1);
        due("five pulls", x.aim(1, 9, 0, 0, 0, 2, 10), 5);
        due("aimed(4)", x.aimed(4), 0);
        due("aimed(5)", x.aimed(5), -1);
        due("aimed(-1)", x.aimed(-1), -1);
        due("more than five", x.aim(1, 9, 0, 0, 0, 2, 11), -2);
        due("aimed stays", x.aimed(4), 0);
        due("least sum", x.aim(4, 50, 9, 7, 8, 5, 10), 2);
        due("aimed(0)", x.aimed(0), 2);
        due("aimed(1)", x.aimed(1), 2);
        due("the sum without sign", x.aim(2, -9, -8, 0, 0, 5, -10), 2);
        due("aimed(0)", x.aimed(0), 1);
        due("several: the first", x.aim(4, 9, 9, 9, 9, 5, 3), 1);
        due("aimed(0)", x.aimed(0), 0);
        same("nothing happens", look(x), before);
        x.run(9, 3, 0);
        due("counted from the row as it is", x.aim(1, 9, 0, 0, 0, 2, 3), 2);
        due("to the other side", x.aim(2, 9, -9, 0, 0, 20, -3), 1);
        due("aimed(0)", x.aimed(0), 1);
        due("bounds", x.aim(4, 9999, -9999, 0, 0, 20, 1000), -2);
        due("bounds", x.aim(4, 9999, -9999, 0, 0, 1, -1000), -2);
        int[][] without = {{0, 1, 1, 1, 1, 1, 1}, {5, 1, 1, 1, 1, 1, 1}, {1, 10000, 1, 1, 1, 1, 1}, {2, 1, -10000, 1, 1, 1, 1},
            {3, 1, 1, 10000, 1, 1, 1}, {4, 1, 1, 1, 10000, 1, 1}, {1, 1, 1, 1, 1, 0, 1}, {1, 1, 1, 1, 1, 21, 1},
            {1, 1, 1, 1, 1, 1, 0}, {1, 1, 1, 1, 1, 1, 1001}, {1, 1, 1, 1, 1, 1, -1001}};
        for (int[] w : without) {
            due("aim without these", x.aim(w[0], w[1], w[2], w[3], w[4], w[5], w[6]), -1);
        }
        due("what is behind the first n is of no matter", x.aim(3, 9, 9, 9, 10000, 20, 20), 1);
        due("what is behind the first n is of no matter", x.aim(2, 9, 9, 10000, 10000, 20, 20), 1);
        due("what is behind the first n is of no matter", x.aim(1, 9, 10000, 10000, 10000, 20, 20), 1);
        promise = 30;
        due("aimed(0)", x.aimed(0), 0);
        x = of("base 0 0");
        x.put(97, 1);
        x.put(2, -1);
        due("several rows of pulls: the first by numbers", x.aim(2, 3, -3, 0, 0, 1, 2), 1);
        due("aimed(0)", x.aimed(0), 0);
        due("no more than there is", x.aim(3, 1, 5, 2, 0, 1, 7), -2);
        due("all that there is", x.aim(3, 2, 5, 1, 0, 1, 6), 3);
        due("the least sum", x.aimed(0) * 100 + x.aimed(1) * 10 + x.aimed(2), 222);
        x = of("base 0 0;speck 51 0 4;speck 53 0 3");
        x.put(50, 1);
        due("one of the pulls is the greater one", x.aim(2, 1, 5, 0, 0, 1, 2), 2);
        due("by numbers", x.aimed(0) * 10 + x.aimed(1), 1);
        due("only where it must be", x.aim(3, 5, 1, 4, 0, 1, 4), 4);
        due("by numbers", x.aimed(0) * 1000 + x.aimed(1) * 100 + x.aimed(2) * 10 + x.aimed(3), 1012);
    }

    private static void fitting() {
        SlidingFlaws x = of("base 10 99");
        x.put(50, 1);
        x.put(51, 1);
        x.mark();
        x.clear();
        x.put(49, 1);
        x.put(52, 1);
        String before = look(x);
        due("above 10, 3 apart nothing", x.fit(1, 1, 0, 0, 3, 0, 1), 4);
        due("the first", x.fitted(0, 0), 12);
        due("the last", x.fitted(3, 0), 21);
        due("behind it", x.fitted(4, 0), -1);
        due("k -1", x.fitted(-1, 0), -1);
        due("no such distance", x.fitted(0, 1), -1);
        due("i -1", x.fitted(0, -1), -1);
        due("by low, two more ticks: not by 3 apart", x.fit(2, 1, 3, 0, 3, 0, 9), 4 * 4);
        due("the first one first", x.fitted(3, 0), 12);
        due("the second distance", x.fitted(3, 1), 9);
        due("next", x.fitted(4, 0), 15);
        due("next", x.fitted(4, 1), 0);
        due("three", x.fit(3, 20, 1, 3, 3, 0, 9), 8 * 4 * 4);
        due("of no matter", x.fitted(16, 0), 3);
        due("then", x.fitted(16, 1), 12);
        due("none", x.fit(1, 1, 0, 0, 1, 0, 9), 0);
        due("none found", x.fitted(0, 0), -1);
        due("others as in the text", x.fit(1, 5, 0, 0, 100, 0, 9), 0);
        same("nothing happens", look(x), before);
        int[][] without = {{0, 1, 2, 3, 1, 0, 1}, {4, 1, 2, 3, 1, 0, 1}, {1, 0, 2, 3, 1, 0, 1}, {1, 21, 2, 3, 1, 0, 1},
            {2, 1, 0, 3, 1, 0, 1}, {2, 1, 21, 3, 1, 0, 1}, {2, 1, 1, 3, 1, 0, 1}, {3, 1, 2, 1, 1, 0, 1}, {3, 1, 2, 2, 1, 0, 1},
            {3, 1, 2, 21, 1, 0, 1}, {1, 1, 2, 3, 0, 0, 1}, {1, 1, 2, 3, 101, 0, 1}, {1, 1, 2, 3, 1, 10000, 1},
            {1, 1, 2, 3, 1, -10000, 1}, {1, 1, 2, 3, 1, 0, -1}, {1, 1, 2, 3, 1, 0, 201}};
        x.fit(1, 1, 0, 0, 100, 0, 1);
        for (int[] w : without) {
            due("fit without these", x.fit(w[0], w[1], w[2], w[3], w[4], w[5], w[6]), -1);
        }
        promise = 32;
        due("the latest that was not refused", x.fitted(0, 0), 100);
        due("what is behind the first n is of no matter", x.fit(1, 1, 1, 99, 100, 0, 1), 7);
        due("the greatest", x.fitted(6, 0), 700);
        x = of("push 1 50;push 7 8");
        x.put(10, 1);
        x.put(11, 1);
        x.mark();
        x.put(90, -1);
        x.back();
        due("no ticks: all", x.fit(3, 1, 2, 3, 1, 9999, 0), 512);
        due("the last", x.fitted(511, 2), 7);
        due("the pushes of the text stay", x.push(1), 50);
        x.undo();
        due("another row", x.fit(3, 1, 2, 3, 1, 0, 0), 0);
    }

    private static void seeing() {
        SlidingFlaws x = of("eye 1 1 0;eye 0 0 1");
        x.knot(false);
        x.knot(false);
        x.line(0, 1, 5, -5, 0);
        x.line(0, 1, 0, 1, 1);
        due("not seen", x.seen(0, 0), 0);
        due("not seen", x.seen(0, 1), 0);
        due("seen", x.seen(1, 0), 1);
        due("seen", x.seen(1, 1), 1);
        due("no line", x.seen(2, 0), -1);
        due("no line", x.seen(-1, 0), -1);
        due("no eye", x.seen(0, 2), -1);
        due("no eye", x.seen(0, -1), -1);
        x.line(1, 0, 5, -5, 0);
        x.meet(0, 2);
        due("gone", x.seen(0, 0), -1);
    }

    private static void sights() {
        SlidingFlaws x = of("step 1 1 0;step 1 -1 0;step 0 0 1;step 1 0 0;eye 1 1 0;eye 0 0 1;eye 1 0 0");
        promise = 36;
        due("all fit", x.readBack(-1), 4);
        due("the last", x.readBack(3), 3);
        due("behind it", x.readBack(4), -1);
        due("k -2", x.readBack(-2), -1);
        promise = 37;
        due("two by two", x.nextEye(), 0);
        promise = 34;
        due("no eye", x.sight(3, true), -1);
        due("no eye", x.sight(-1, true), -1);
        due("sight", x.sight(1, false), 1);
        promise = 36;
        due("fit", x.readBack(-1), 3);
        due("the first", x.readBack(0), 0);
        due("the last", x.readBack(2), 3);
        promise = 34;
        due("sight", x.sight(0, true), 2);
        promise = 36;
        due("both", x.readBack(-1), 2);
        due("the second", x.readBack(1), 3);
        promise = 37;
        due("parts none", x.nextEye(), -1);
        promise = 34;
        for (int i = 3; i <= 20; i++) {
            due("sight", x.sight(0, true), i);
        }
        due("a twenty-first", x.sight(0, true), -1);
        due("count(12)", x.count(12), 20);
        promise = 35;
        due("forget", x.forget(), 20);
        due("count(12)", x.count(12), 0);
        due("again", x.forget(), 0);
        promise = 36;
        due("all fit", x.readBack(-1), 4);
        x.sight(1, true);
        x.sight(1, false);
        due("none fits both", x.readBack(-1), 0);
        due("none", x.readBack(0), -1);
        promise = 37;
        due("no steps", x.nextEye(), -1);
        due("no eyes", of("step 1 0 0").nextEye(), -1);
        due("one step", of("step 1 0 0;eye 1 0 0;eye 0 1 0").nextEye(), -1);
        due("the least of the greater", of("step 1 0 0;step 0 1 0;step 0 0 1;step 0 1 1;eye 1 0 0;eye 0 1 0;eye 0 0 1").nextEye(), 1);
        due("three to one", of("step 1 0 0;step 0 1 0;step 0 0 1;step 0 1 1;eye 1 1 1;eye 1 0 0").nextEye(), 1);
    }

    private static SlidingFlaws grain(String more) {
        SlidingFlaws x = of("step 1 0 0;step 0 1 0;plane 0 0 1;plane 1 0 0;plane 0 0 2" + more);
        x.system(0, 0);
        x.system(1, 1);
        return x;
    }

    private static void systemsMade() {
        SlidingFlaws x = of("step 1 0 0;step 0 1 0;plane 0 0 1;plane 1 0 0");
        due("not in the plane", x.system(1, 0), -1);
        due("no plane", x.system(2, 0), -1);
        due("no plane", x.system(-1, 0), -1);
        due("no step", x.system(0, 2), -1);
        due("no step", x.system(0, -1), -1);
        for (int i = 0; i < 8; i++) {
            due("system", x.system(0, i % 2), i);
        }
        due("a ninth", x.system(0, 0), -1);
        due("count(13)", x.count(13), 8);
        x = grain("");
        x.fill(0, 10, 1);
        tell(x, "step 1 1 1");
        due("kept as ways", x.load(1, 0, 1, 10, 3, 0), 3);
        due("strain", x.strain(1, 0, 1), 3);
    }

    private static void systemsInSpace() {
        SlidingFlaws x = of("step 1 2 3;plane 3 3 -3;plane 5 2 -3");
        due("in the first", x.system(0, 0), 0);
        due("in the second", x.system(1, 0), 1);
        x.fill(0, 10, 1);
        x.fill(0, 90, 1);
        x.fill(1, 10, 1);
        tell(x, "");
        promise = 42;
        due("square 18 * 18 by 27 * 14", x.pulled(0, 0, 2, 100, 0), -46);
        promise = 44;
        due("load", x.load(0, 0, 2, 100, 1, 0), 1);
        due("strain", x.strain(1, 2, 4), -2 * -3 * 17 + -1 * -3 * 17);
        promise = 47;
        int[] step = {1, 2, 3};
        int[] planes = {-2 * 3 - 5, -2 * 3 - 2, -2 * -3 - -3};
        for (int i = 0; i < 3; i++) {
            for (int j = 0; j < 3; j++) {
                due("form(" + i + ", " + j + ")", x.form(i, j), step[i] * planes[j]);
            }
        }
        promise = 48;
        due("a wall", x.wall(9), 1);
        promise = 49;
        due("tilt", x.tilt(9, 2), 3);
    }

    private static void hardening() {
        SlidingFlaws x = grain(";source 80 5");
        due("bounds", x.harder(999, 999), true);
        due("own", x.harder(1000, 0), false);
        due("own", x.harder(-1, 0), false);
        due("cross", x.harder(0, 1000), false);
        due("cross", x.harder(0, -1), false);
        due("bounds", x.harder(0, 0), true);
        due("set", x.harder(150, 70), true);
        due("refused, nothing happens", x.harder(5, -1), false);
        x.fill(0, 10, 1);
        due("nothing gone", x.systems(0, 3), 0);
        x.load(1, 0, 1, 2, 1, 0);
        due("own by 100, downwards", x.systems(0, 3), 1);
        due("cross by 100, downwards", x.systems(1, 3), 0);
        due("a pull of 1 is held", x.load(1, 0, 1, 3, 9, 0), 0);
        due("the next", x.load(1, 0, 1, 4, 9, 0), 1);
        due("by 3 now", x.systems(0, 3), 3);
        due("cross by 1 now", x.systems(1, 3), 1);
        x.fill(1, 20, 1);
        due("others harden, too: held", x.load(1, 1, 0, 2, 9, 0), 0);
        due("above that", x.load(1, 1, 0, 4, 1, 0), 1);
        due("together", x.systems(0, 3), 3);
        due("together", x.systems(1, 3), 2);
        due("not the sources'", x.load(1, 1, 0, 12, 1, 0), 1);
        due("came", x.systems(1, 6), 2);
    }

    private static void filling() {
        SlidingFlaws x = grain("");
        due("fill", x.fill(0, 0, 1), true);
        due("fill", x.fill(1, 0, -1), true);
        due("one is there", x.fill(0, 0, 1), false);
        due("no system", x.fill(2, 0, 1), false);
        due("no system", x.fill(-1, 0, 1), false);
        due("no place", x.fill(0, 100, 1), false);
        due("no place", x.fill(0, -1, 1), false);
        due("no sign", x.fill(0, 1, 0), false);
        due("no sign", x.fill(0, 1, 2), false);
        for (int i = 1; i < 30; i++) {
            due("fill", x.fill(0, i, 1), true);
        }
        due("30 are there", x.fill(0, 50, 1), false);
        due("the other has room", x.fill(1, 50, 1), true);
        due("the row is another one", x.count(5), 0);
        due("nothing to undo", x.count(14), 0);
    }

    private static void systemsAsked() {
        SlidingFlaws x = grain(";source 80 900");
        x.fill(0, 10, 1);
        x.fill(0, 12, -1);
        x.fill(0, 99, 1);
        x.fill(0, 40, -1);
        x.load(1, 0, 1, 10, 1, 0);
        due("flaws", x.systems(0, 0), 1);
        due("slipped", x.systems(0, 1), 4);
        due("gone", x.systems(0, 2), 4);
        due("out", x.systems(0, 4), 1);
        due("lost", x.systems(0, 5), 2);
        due("came", x.systems(0, 6), 0);
        due("sign", x.systems(0, 139), -1);
        due("none", x.systems(0, 140), 0);
        x.load(-1, 0, 1, 10, 1, 0);
        due("slipped back", x.systems(0, 1), 3);
        due("gone, in all", x.systems(0, 2), 5);
        due("place 99", x.systems(0, 199), 0);
        x.fill(0, 99, 1);
        x.fill(0, 0, -1);
        due("place 99", x.systems(0, 199), 1);
        due("place 0", x.systems(0, 100), -1);
        x.load(1, 0, 1, 2000, 1, 0);
        due("came", x.systems(0, 6), 2);
        for (int what : new int[] {-1, 7, 99, 200, Integer.MAX_VALUE, Integer.MIN_VALUE}) {
            due("another what", x.systems(0, what), -1000000);
        }
        due("no system", x.systems(2, 0), -1000000);
        due("no system", x.systems(-1, 0), -1000000);
    }

    private static void pulling() {
        SlidingFlaws x = grain("");
        due("a half", x.pulled(1, 0, 1, 10, 0), 5);
        due("a half, less", x.pulled(1, 0, 1, 11, 0), 5);
        due("below 0", x.pulled(-1, 0, 1, 11, 0), -5);
        due("a whole", x.pulled(1, 0, 1, 9999, 0), 4999);
        due("the other one", x.pulled(1, 1, 0, 8, 1), 4);
        due("nothing", x.pulled(1, 0, 0, 9999, 0), 0);
        due("a third", x.pulled(1, 1, 1, 10, 0), 3);
        due("no pull", x.pulled(1, 0, 1, 0, 0), 0);
        int[][] without = {{0, 0, 0, 1, 0}, {10, 0, 0, 1, 0}, {1, 0, 1, -1, 0}, {1, 0, 1, 10000, 0}, {1, 0, 1, 1, 2},
            {1, 0, 1, 1, -1}};
        for (int[] w : without) {
            due("pulled without these", x.pulled(w[0], w[1], w[2], w[3], w[4]), -1000000);
        }
    }

    private static void loading() {
        SlidingFlaws x = grain(";base 3 6;push 1 2");
        x.fill(0, 10, 1);
        x.fill(1, 10, 1);
        due("not above", x.load(1, 0, 1, 6, 5, 0), 0);
        due("by low", x.load(1, 0, 1, 8, 5, 0), 5);
        due("by high", x.load(1, 0, 1, 12, 5, 1), 0);
        due("by high, above", x.load(1, 0, 1, 14, 5, 1), 5);
        due("one of them", x.systems(0, 120), 1);
        due("the other one stays", x.systems(1, 110), 1);
        due("no steps", x.load(1, 0, 1, 9999, 0, 0), 0);
        due("to the end", x.load(1, 0, 1, 9999, 200, 0), 80);
        due("out", x.systems(0, 4), 1);
        int[][] without = {{0, 0, 0, 1, 1, 0}, {1, 0, 10, 1, 1, 0}, {1, 0, 1, -1, 1, 0}, {1, 0, 1, 10000, 1, 0},
            {1, 0, 1, 1, -1, 0}, {1, 0, 1, 1, 201, 0}, {1, 0, 1, 1, 1, 2}, {1, 0, 1, 1, 1, -1}};
        for (int[] w : without) {
            due("load without these", x.load(w[0], w[1], w[2], w[3], w[4], w[5]), -1);
        }
        due("nothing happens", x.systems(0, 2), 90);
        due("no systems", new SlidingFlaws().load(1, 0, 0, 1, 200, 0), 0);
        x = grain("");
        x.harder(100, 300);
        x.fill(0, 10, 1);
        x.fill(1, 10, 1);
        due("what all are harder by is looked at first", x.load(1, 1, 1, 6, 1, 0), 1);
        due("both went", x.systems(0, 2) + x.systems(1, 2), 2);
        due("harder now", x.systems(1, 3), 4);
        due("held now", x.load(1, 1, 1, 12, 9, 0), 0);
    }

    private static void straining() {
        SlidingFlaws x = grain("");
        due("none slipped", x.strain(1, 0, 1), 0);
        x.fill(0, 10, 1);
        x.fill(1, 10, -1);
        x.fill(1, 50, -1);
        x.load(1, 2, 3, 9999, 2, 0);
        due("slipped", x.systems(0, 1), 2);
        due("slipped", x.systems(1, 1), 4);
        due("along", x.strain(1, 2, 3), 2 * 3 + 4 * 2);
        due("along another", x.strain(-1, 2, 3), -2 * 3 - 4 * 2);
        due("no way", x.strain(0, 0, 0), -1000000000000000L);
        due("no way", x.strain(0, 0, 10), -1000000000000000L);
        promise = 47;
        due("form x z", x.form(0, 2), 2);
        due("form y x", x.form(1, 0), 4);
        due("form x x", x.form(0, 0), 0);
        for (int p : new int[] {-1, 3, Integer.MAX_VALUE}) {
            due("no part", x.form(p, 0), -1000000000000000L);
            due("no part", x.form(0, p), -1000000000000000L);
        }
    }

    private static void curves() {
        SlidingFlaws x = grain(";base 2 4");
        x.fill(0, 10, 1);
        x.fill(1, 20, 1);
        due("up", x.curve(1, 0, 1, 8, 2, 3, 2), 4);
        due("by high not above", x.curved(0), 0);
        due("curved(1)", x.curved(1), 2);
        due("curved(2)", x.curved(2), 4);
        due("curved(3)", x.curved(3), -1000000000000000L);
        due("curved(-1)", x.curved(-1), -1000000000000000L);
        due("it has happened", x.systems(0, 114), 1);
        int[][] without = {{0, 0, 0, 1, 1, 1, 1}, {1, 0, 10, 1, 1, 1, 1}, {1, 0, 1, -1, 1, 1, 1}, {1, 0, 1, 10000, 0, 1, 1},
            {1, 0, 1, 5, 10000, 1, 1}, {1, 0, 1, 5, -10000, 1, 1}, {1, 0, 1, 9999, 1, 2, 1}, {1, 0, 1, 5, -3, 3, 1},
            {1, 0, 1, 5, 1, 0, 1}, {1, 0, 1, 5, 1, 21, 1}, {1, 0, 1, 50, 1, 1, 0}, {1, 0, 1, 50, 1, 1, 51}};
        for (int[] w : without) {
            due("curve without these", x.curve(w[0], w[1], w[2], w[3], w[4], w[5], w[6]), -1000000000000000L);
        }
        due("nothing happens", x.systems(0, 114), 1);
        promise = 46;
        due("the latest that was not refused", x.curved(2), 4);
        due("down again", x.curve(1, 0, 1, 9999, -9999, 2, 50), 54);
        due("curved(0)", x.curved(0), 54);
        due("curved(1)", x.curved(1), 54);
        due("curved(2)", x.curved(2), -1000000000000000L);
        due("one", x.curve(1, 1, 0, 5, -9999, 1, 1), 0);
        due("twenty", x.curve(1, 1, 0, 100, 1, 20, 1), 20);
        due("curved(19)", x.curved(19), 20);
        due("curved(18)", x.curved(18), 19);
        due("no systems", new SlidingFlaws().curve(1, 0, 0, 0, 0, 1, 1), 0);
    }

    private static void walls() {
        SlidingFlaws x = of("step 1 -2 0;step 1 0 0;step 1 -2 0;step -1 2 0;plane 0 0 1;plane 0 0 2;plane 0 0 1");
        due("no systems", x.wall(5), 0);
        x.system(0, 0);
        x.system(2, 2);
        x.system(1, 0);
        x.system(0, 3);
        x.system(0, 1);
        x.system(0, 1);
        x.system(0, 1);
        due("no flaws", x.wall(5), 0);
        promise = 49;
        due("no wall", x.tilt(5, 0), 0);
        promise = 48;
        x.fill(2, 5, 1);
        due("one", x.wall(5), 1);
        x.fill(0, 5, -1);
        x.fill(1, 5, -1);
        due("two, alike in all parts", x.wall(5), 2);
        promise = 49;
        due("x", x.tilt(5, 0), -2);
        due("y", x.tilt(5, 1), 4);
        due("z", x.tilt(5, 2), 0);
        promise = 48;
        x.fill(3, 5, 1);
        x.fill(4, 5, 1);
        x.fill(5, 5, 1);
        due("of several the first", x.wall(5), 2);
        promise = 49;
        due("of several the first", x.tilt(5, 1), 4);
        promise = 48;
        x.fill(6, 5, 1);
        due("the longest", x.wall(5), 3);
        promise = 49;
        due("the longest", x.tilt(5, 0), 3);
        due("the longest", x.tilt(5, 1), 0);
        promise = 48;
        x.fill(4, 6, 1);
        x.fill(5, 6, -1);
        x.fill(6, 6, 1);
        due("one sign", x.wall(6), 1);
        x.fill(4, 0, 1);
        x.fill(6, 0, 1);
        due("one behind the other", x.wall(0), 1);
        due("place 99", x.wall(99), 0);
        due("no place", x.wall(100), -1);
        due("no place", x.wall(-1), -1);
        promise = 49;
        due("no place", x.tilt(100, 0), -100000);
        due("no place", x.tilt(-1, 0), -100000);
        due("no part", x.tilt(5, 3), -100000);
        due("no part", x.tilt(5, -1), -100000);
    }

    // An object has 512 calls: where the row is looked at often, only places that matter are.
    private static String brief(SlidingFlaws x) {
        StringBuilder all = new StringBuilder();
        for (int p = 9; p < 56; p = p == 14 ? 46 : p + 1) {
            all.append(x.at(p)).append(' ');
        }
        for (int what = 5; what <= 10; what++) {
            all.append(' ').append(x.count(what));
        }
        return all.toString();
    }

    private static void undoing() {
        SlidingFlaws x = of("source 50 0;base 0 0");
        String[] looks = new String[80];
        looks[0] = brief(x);
        x.put(10, 1);
        looks[1] = brief(x);
        x.put(12, -1);
        looks[2] = brief(x);
        x.run(5, 2, 0);
        looks[3] = brief(x);
        x.mark();
        x.run(5, 0, 0);
        looks[4] = brief(x);
        x.clear();
        looks[5] = brief(x);
        x.back();
        looks[6] = brief(x);
        due("count(14)", x.count(14), 6);
        for (int i = 5; i >= 0; i--) {
            due("undo", x.undo(), true);
            same("undone", brief(x), looks[i]);
            due("count(14)", x.count(14), i);
        }
        due("nothing more", x.undo(), false);
        promise = 51;
        for (int i = 1; i <= 6; i++) {
            due("redo", x.redo(), true);
            same("redone", brief(x), looks[i]);
            due("count(14)", x.count(14), i);
        }
        due("nothing more", x.redo(), false);
        promise = 50;
        x.undo();
        x.undo();
        x.put(200, 1);
        x.run(1, 1, 5);
        x.fill(0, 1, 1);
        x.sure(5, 5);
        x.aim(1, 5, 0, 0, 0, 5, 1);
        x.fit(1, 1, 0, 0, 1, 1, 1);
        due("refused and other acts don't count", x.count(14), 4);
        promise = 51;
        due("redo", x.redo(), true);
        x.put(90, 1);
        due("an act behind an undoing drops it", x.redo(), false);
        due("count(14)", x.count(14), 6);
        promise = 50;
        x.undo();
        same("ahead of that", brief(x), looks[5]);
        x.back();
        due("the mark stays", x.count(5), 4);
    }

    private static void undoingMany() {
        SlidingFlaws x = of("base 0 0");
        x.put(0, 1);
        for (int i = 0; i < 70; i++) {
            x.run(5, 1, 0);
        }
        due("50 at most", x.count(14), 50);
        for (int i = 69; i >= 20; i--) {
            due("undo", x.undo(), true);
            due("undone: at(" + i + ")", x.at(i), 1);
            due("undone: slipped", x.count(6), i);
        }
        due("the oldest are gone", x.undo(), false);
        for (int i = 21; i <= 70; i++) {
            due("redo", x.redo(), true);
        }
        due("redone: at(70)", x.at(70), 1);
        due("redone: slipped", x.count(6), 70);
        due("no more", x.redo(), false);
    }

    private static void shielding() {
        SlidingFlaws x = of("push 1 9;push 2 4;push 20 100");
        due("an empty row", x.shield(0), 0);
        x.put(0, 1);
        x.put(1, 1);
        x.put(2, -1);
        due("at 0", x.shield(0), 9 - 4);
        due("at 1", x.shield(1), -9);
        x.put(20, 1);
        due("20 away", x.shield(0), 105);
        x.put(21, 1);
        due("21 away", x.shield(0), 105);
        x.put(80, -1);
        x.put(61, 1);
        due("at 60", x.shield(60), 9 - 100);
        due("no length", x.shield(61), -1000000000);
        due("no length", x.shield(-1), -1000000000);
        promise = 53;
        due("runs", x.crack(0, 116, 5, 10), 1);
        due("open, at high", x.crack(0, 115, 5, 10), 2);
        due("open, above low", x.crack(0, 111, 5, 10), 2);
        due("stops, at low", x.crack(0, 110, 5, 10), 0);
        due("low is high", x.crack(0, 111, 6, 6), 0);
        due("low is high", x.crack(0, 112, 6, 6), 1);
        due("bounds", x.crack(60, -9999, 0, 9999), 0);
        due("bounds", x.crack(60, 9999, 9999, 9999), 1);
        int[][] without = {{61, 0, 0, 0}, {-1, 0, 0, 0}, {0, 10000, 0, 0}, {0, -10000, 0, 0}, {0, 0, -1, 0}, {0, 0, 6, 5},
            {0, 0, 0, 10000}, {0, 0, 10000, 10000}};
        for (int[] w : without) {
            due("crack without these", x.crack(w[0], w[1], w[2], w[3]), -1);
        }
    }

    private static void howFar() {
        SlidingFlaws x = of("push 1 9;push 2 4;push 3 2");
        due("60 at most", x.runsTo(0, 1, 0, 0), 60);
        due("from 60", x.runsTo(60, 9999, 0, 0), 60);
        due("not above", x.runsTo(5, 10, 10, 0), 5);
        due("less with each place", x.runsTo(5, 13, 10, 1), 8);
        due("less with each place", x.runsTo(5, 13, 10, 999), 6);
        x.put(30, 1);
        due("to ahead of a flaw", x.runsTo(0, 9999, 0, 0), 29);
        due("from there", x.runsTo(29, 9999, 0, 0), 29);
        due("from at it", x.runsTo(30, 9999, 0, 0), 60);
        due("shielded", x.runsTo(0, 5, 0, 0), 29);
        due("shielded", x.runsTo(0, 4, 0, 0), 28);
        due("shielded", x.runsTo(0, 2, 0, 0), 27);
        x.put(61, -1);
        due("at 60 no more", x.runsTo(40, 1, 0, 0), 60);
        int[][] without = {{61, 0, 0, 0}, {-1, 0, 0, 0}, {0, 10000, 0, 0}, {0, -10000, 0, 0}, {0, 0, -1, 0}, {0, 0, 10000, 0},
            {0, 0, 0, -1}, {0, 0, 0, 1000}};
        for (int[] w : without) {
            due("runsTo without these", x.runsTo(w[0], w[1], w[2], w[3]), -1);
        }
    }

    private static void counting() {
        SlidingFlaws x = of("step 1 0 0;step 0 1 0;plane 0 0 1;eye 1 0 0;eye 0 1 0;eye 0 0 1;source 50 9;base 0 0");
        x.knot(true);
        x.knot(true);
        x.line(0, 1, 1, 0, 0);
        x.line(0, 1, -1, 0, 0);
        x.line(0, 1, 0, 1, 0);
        x.meet(0, 1);
        x.put(98, 1);
        x.put(10, 1);
        x.put(13, -1);
        x.run(10, 2, 0);
        x.sight(0, true);
        x.system(0, 0);
        x.feed(0, 0, 0, 0, 0);
        long[] due = {2, 1, 3, 2, 1, 4, 7, 70, 1, 2, 4, 20, 1, 1, 4};
        for (int what = 0; what < due.length; what++) {
            due("count(" + what + ")", x.count(what), due[what]);
        }
        due("count(15)", x.count(15), -1);
        due("count(-1)", x.count(-1), -1);
        due("count(MIN)", x.count(Integer.MIN_VALUE), -1);
        x = of("base 0 0");
        for (int i = 0; i < 20; i++) {
            x.put(i, 1);
        }
        for (int i = 0; i < 20; i++) {
            x.run(9999, 200, 0);
            x.mark();
        }
        due("much work", x.count(7), 9999L * x.count(6));
    }

    private static void number(int n) {
        promise = n;
    }

    public static void main(String[] args) {
        Watch.start("PromisesTest");
        number(1);
        newObject();
        number(2);
        feeding();
        number(3);
        ending();
        number(4);
        readingWell();
        readingFaults();
        number(5);
        telling();
        number(6);
        pushing();
        number(7);
        holding();
        number(8);
        knots();
        number(9);
        linesTold();
        number(10);
        linesAsked();
        number(11);
        sums();
        number(12);
        soundness();
        number(13);
        meeting();
        meetingInSpace();
        number(14);
        parting();
        number(15);
        leasts();
        number(16);
        groups();
        number(17);
        shares();
        number(18);
        sliding();
        number(19);
        firsts();
        number(20);
        puttingAndAt();
        number(22);
        feeling();
        number(23);
        clearing();
        number(24);
        marking();
        number(26);
        running();
        ticks();
        sources();
        number(27);
        sureness();
        number(28);
        shapes();
        number(29);
        aiming();
        number(31);
        fitting();
        number(33);
        seeing();
        sights();
        number(38);
        systemsMade();
        systemsInSpace();
        number(39);
        hardening();
        number(40);
        filling();
        number(41);
        systemsAsked();
        number(42);
        pulling();
        number(43);
        loading();
        number(44);
        straining();
        number(45);
        curves();
        number(48);
        walls();
        number(50);
        undoing();
        undoingMany();
        number(52);
        shielding();
        number(54);
        howFar();
        number(55);
        counting();
        System.out.println(asked + " asked, " + wrong + " wrong");
        if (wrong != 0) {
            System.exit(1);
        }
    }
}
