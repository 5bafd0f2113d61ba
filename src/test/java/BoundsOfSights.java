/** Each sentence of part IV and of promises 33 to 37. */
final class BoundsOfSights extends Bounds {
    private static final String FOUR = "step 1 1 0;step 1 -1 0;step 0 0 1;step 1 0 0;eye 1 1 0;eye 0 0 1;eye 1 0 0";

    static void all() {
        test("IV", "A LINE with STEP b is NOT SEEN by EYE g, if g * b = 0.", () -> {
            SlidingFlaws x = of("eye 9 -9 9;eye 0 0 1;eye -9 0 0");
            x.knot(true);
            x.knot(true);
            int[][] steps = {{99, 0, -99}, {99, 0, -98}, {99, 99, 0}, {0, 0, 1}, {-1, 0, 1}, {0, 1, 1}, {-99, 99, -99}};
            int[][] seen = {{0, 1, 1}, {1, 1, 1}, {0, 0, 1}, {1, 1, 0}, {0, 1, 1}, {0, 1, 0}, {1, 1, 1}};
            for (int line = 0; line < steps.length; line++) {
                x.line(0, 1, steps[line][0], steps[line][1], steps[line][2]);
                for (int eye = 0; eye < 3; eye++) {
                    due("seen(" + line + ", " + eye + ")", x.seen(line, eye), seen[line][eye]);
                }
            }
        });
        test("33", "1 if a LINE that is there is seen by an EYE of the TEXT, 0 if not;", () -> {
            SlidingFlaws x = of(times(15, "eye 1 0 0") + ";eye 0 1 0");
            x.knot(false);
            x.knot(false);
            for (int i = 0; i < 120; i++) {
                x.line(0, 1, i < 119 ? 1 : 0, 1, 0);
            }
            due("the first", x.seen(0, 0), 1);
            due("the last LINE", x.seen(119, 0), 0);
            due("the last LINE and EYE", x.seen(119, 15), 1);
            tell(x, "eye 0 0 1");
            due("by an EYE of the TEXT as it is", x.seen(0, 0), 0);
        });
        test("33", "NONE without these.", () -> {
            SlidingFlaws x = of("eye 1 0 0;eye 0 1 0");
            x.knot(false);
            x.knot(false);
            x.line(0, 1, 1, 0, 0);
            x.line(0, 1, -1, 0, 0);
            x.line(0, 1, 1, 0, 0);
            for (int bad : new int[] {-1, 3, 119, 120, MIN, MAX}) {
                due("line " + bad, x.seen(bad, 0), NONE);
            }
            for (int bad : new int[] {-1, 2, 15, 16, MIN, MAX}) {
                due("eye " + bad, x.seen(0, bad), NONE);
            }
            x.meet(0, 1);
            due("one that went", x.seen(0, 0), NONE);
            due("one that went", x.seen(1, 0), NONE);
            due("one that is there", x.seen(2, 0), 1);
            tell(x, "");
            due("no EYE", x.seen(2, 0), NONE);
        });
        test("IV", "SIGHTS, 20 at most: by an EYE a LINE was seen, or not.", () -> {
            SlidingFlaws x = of(FOUR);
            for (int i = 1; i <= 19; i++) {
                due("sight()", x.sight(0, true), i);
            }
            due("three fit", x.readBack(NONE), 2);
            due("the twentieth", x.sight(1, true), 20);
            due("none fits", x.readBack(NONE), 0);
            due("one more", x.sight(1, true), NONE);
            due("one more", x.sight(2, false), NONE);
            due("count(12)", x.count(12), 20);
        });
        test("34", "A SIGHT: how many there are;", () -> {
            SlidingFlaws x = of(times(16, "eye 1 0 0"));
            due("by the first EYE", x.sight(0, true), 1);
            due("by the last EYE", x.sight(15, false), 2);
            due("count(12)", x.count(12), 2);
        });
        test("34", "NONE: 20, or no such EYE.", () -> {
            SlidingFlaws x = of("step 1 0 0;eye 1 0 0;eye 0 1 0");
            for (int bad : new int[] {-1, 2, 15, 16, MIN, MAX}) {
                due("sight(" + bad + ")", x.sight(bad, true), NONE);
            }
            due("count(12)", x.count(12), 0);
            due("all fit", x.readBack(NONE), 1);
            for (int i = 0; i < 20; i++) {
                x.sight(1, false);
            }
            due("a twenty-first", x.sight(1, true), NONE);
            due("it is of no matter", x.readBack(NONE), 1);
            due("no EYE", new SlidingFlaws().sight(0, true), NONE);
        });
        test("35", "All SIGHTS go: how many there were.", () -> {
            SlidingFlaws x = of(FOUR);
            due("none", x.forget(), 0);
            x.sight(0, true);
            due("one", x.forget(), 1);
            due("count(12)", x.count(12), 0);
            due("all fit again", x.readBack(NONE), 4);
            for (int i = 0; i < 21; i++) {
                x.sight(0, false);
            }
            due("twenty", x.forget(), 20);
            due("none", x.forget(), 0);
            due("the first again", x.sight(0, false), 1);
        });
        test("IV", "READ BACK: the STEPS of the TEXT that fit all SIGHTS (whatever LINE's own STEP is).", () -> {
            SlidingFlaws x = of(FOUR);
            x.knot(true);
            x.knot(true);
            x.line(0, 1, 5, 7, 11);
            due("without SIGHTS", x.readBack(NONE), 4);
            x.sight(0, true);
            due("seen by (1, 1, 0)", x.readBack(NONE), 2);
            due("the first", x.readBack(0), 0);
            due("the second", x.readBack(1), 3);
            x.sight(1, false);
            due("not seen by (0, 0, 1)", x.readBack(NONE), 2);
            x.sight(2, true);
            due("seen by (1, 0, 0)", x.readBack(NONE), 2);
            x.sight(0, false);
            due("seen and not seen", x.readBack(NONE), 0);
            due("none", x.readBack(0), NONE);
            x.forget();
            x.sight(0, false);
            due("not seen by (1, 1, 0)", x.readBack(NONE), 2);
            due("the first", x.readBack(0), 1);
            due("the second", x.readBack(1), 2);
            x.sight(1, true);
            due("seen by (0, 0, 1)", x.readBack(NONE), 1);
            due("the first", x.readBack(0), 2);
            due("behind it", x.readBack(1), NONE);
        });
        test("36", "READ BACK: how many STEPS (k NONE), or the k-th, by numbers; NONE.", () -> {
            SlidingFlaws x = of(times(15, "step 1 0 0") + ";step 0 1 0;eye 0 1 0");
            due("sixteen", x.readBack(NONE), 16);
            due("the first", x.readBack(0), 0);
            due("the last", x.readBack(15), 15);
            for (int bad : new int[] {16, 17, -2, -3, MIN, MAX}) {
                due("readBack(" + bad + ")", x.readBack(bad), NONE);
            }
            x.sight(0, true);
            due("one", x.readBack(NONE), 1);
            due("the last STEP", x.readBack(0), 15);
            due("behind it", x.readBack(1), NONE);
            due("k -2", x.readBack(-2), NONE);
            due("no STEPS", of("eye 1 0 0").readBack(NONE), 0);
            due("no STEPS", of("eye 1 0 0").readBack(0), NONE);
        });
        test("IV", "NEXT EYE: of the EYES of the TEXT the one by which the greater of those, of the STEPS read back, "
            + "that would be seen and that would not is least; of several the first; none, if that parts none.", BoundsOfSights::nextEyes);
        test("37", "NEXT EYE; NONE.", () -> {
            SlidingFlaws x = of(FOUR);
            due("two and two", x.nextEye(), 0);
            x.sight(0, true);
            due("two of one sort", x.nextEye(), NONE);
            x.forget();
            x.sight(0, false);
            due("(1, -1, 0) and (0, 0, 1)", x.nextEye(), 1);
            x.sight(1, true);
            due("one is left", x.nextEye(), NONE);
            x.sight(1, false);
            due("none is left", x.nextEye(), NONE);
            due("nothing told", new SlidingFlaws().nextEye(), NONE);
            due("no EYE", of("step 1 0 0;step 0 1 0").nextEye(), NONE);
            due("no STEP", of("eye 1 0 0;eye 0 1 0").nextEye(), NONE);
        });
    }

    private static void nextEyes() {
        String steps = "step 1 0 0;step 1 1 0;step 1 0 1;step 1 1 1";
        // How many of four an EYE would see: 4, 0, 1, 3, 2.
        String four = ";eye 1 0 0";
        String none = ";eye 1 -9 -9";
        due("sees all", of(steps + four).nextEye(), NONE);
        due("sees one or none", of("step 0 1 0;step 0 0 1;step 0 1 1;eye 1 0 0").nextEye(), NONE);
        due("one of two", of("step 1 0 0;step 0 1 0;eye 0 1 0").nextEye(), 0);
        due("the other one of two", of("step 1 0 0;step 0 1 0;eye 1 0 0").nextEye(), 0);
        due("two of four", of(steps + four + ";eye 0 1 0").nextEye(), 1);
        due("the first of two", of(steps + four + ";eye 0 0 1;eye 0 1 0").nextEye(), 1);
        due("three of four, none better", of(steps + four + ";eye 0 1 1").nextEye(), 1);
        due("one of four, none better", of(steps + four + ";eye 1 0 -1").nextEye(), 1);
        due("three of four and two", of(steps + ";eye 0 1 1;eye 1 -1 0").nextEye(), 1);
        due("three of four and one and three", of(steps + ";eye 0 1 1;eye 0 2 2;eye 0 3 3").nextEye(), 0);
        due("all of four last", of(steps + ";eye 0 1 1" + four).nextEye(), 0);
        // The last of sixteen; and none of sixteen.
        String fifteen = times(15, "eye 0 0 1");
        due("the last EYE", of("step 1 0 0;step 0 1 0;" + fifteen + ";eye 1 0 0").nextEye(), 15);
        due("none of sixteen", of("step 1 0 0;step 0 1 0;" + fifteen + ";eye 0 0 2").nextEye(), NONE);
        // Of the STEPS read back alone: of four two are left, which the second EYE parts.
        SlidingFlaws x = of(steps + ";eye 0 1 0;eye 0 0 1");
        due("the first", x.nextEye(), 0);
        x.sight(0, true);
        due("the second", x.nextEye(), 1);
        x.sight(1, true);
        due("one is left", x.nextEye(), NONE);
        due("with all three", of(steps + none + ";eye 0 1 0").nextEye(), 1);
    }
}
