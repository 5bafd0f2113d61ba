/** Each sentence of part V and of promises 38 to 49. */
final class BoundsOfGrain extends Bounds {
    private static final long NO_STRAIN = -1000000000000000L;
    private static final String WAYS = "step 1 0 0;step 0 1 0;plane 0 0 1;plane 1 0 0";

    static void all() {
        systems();
        harder();
        pulls();
        loads();
        strains();
        curves();
        walls();
    }

    /** Two SYSTEMS: half of a pull along (1, 0, 1) comes to the first, half of one along (1, 1, 0) to the second. */
    private static SlidingFlaws two(String more) {
        SlidingFlaws x = of(WAYS + more);
        if (x.system(0, 0) != 0 || x.system(1, 1) != 1) {
            fail("no systems");
        }
        return x;
    }

    /** SLIPPED, GONE, OUT, LOST and what came in a SYSTEM. */
    private static void counts(SlidingFlaws x, int system, long flaws, long slipped, long gone, long out, long lost, long came) {
        long[] due = {flaws, slipped, gone, 0, out, lost, came};
        for (int what = 0; what < due.length; what++) {
            if (what != 3) {
                due("systems(" + system + ", " + what + ")", x.systems(system, what), due[what]);
            }
        }
    }

    private static void systems() {
        test("V", "THE GRAIN: SYSTEMS 0 to 7, each a ROW of its own (places, flaws, PUSHES, HOLDS, sources as in III and the TEXT "
            + "as it is), of a PLANE and a STEP of the TEXT that is in it (kept as ways, whatever is read behind), empty at first.", () -> {
            SlidingFlaws x = of(WAYS + ";base 9 9");
            for (int k = 0; k < 8; k++) {
                due("system()", x.system(k % 2, k % 2), k);
                counts(x, k, 0, 0, 0, 0, 0, 0);
                due("HARDER", x.systems(k, 3), 0);
            }
            due("one more", x.system(0, 0), NONE);
            fill(x, 0, "0+ 99-");
            fill(x, 7, "0-");
            put(x, "50+");
            same("the first", rowOf(x, 0), "0+ 99-");
            same("the last", rowOf(x, 7), "0-");
            due("another", x.systems(3, 0), 0);
            due("THE ROW", x.count(5), 1);
            due("by the base", x.load(1, 0, 1, 19, 5, 0), 0);
            // The TEXT as it is: PUSHES, HOLDS, sources are new ones, the ways are the old ones.
            due("read", tell(x, "base 0 0;source 50 4;push 1 3;speck 99 9999 9999"), 4);
            due("pulled", x.pulled(1, 0, 1, 9, 0), 4);
            due("load", x.load(1, 0, 1, 10, 1, 0), 1);
            same("the first", rowOf(x, 0), "1+ 49- 51+ 99-");
            due("what came", x.systems(6, 6), 2);
            due("none came where no pull is", x.systems(7, 6), 0);
            due("pushed apart, not by a pull", x.fill(1, 20, 1) && x.fill(1, 21, 1), true);
            due("load", x.load(1, 0, 1, 0, 1, 0), 1);
            same("the second", rowOf(x, 1), "19+ 22+");
            due("THE ROW", x.at(50), 1);
            due("no act", x.count(14), 1);
        });
        test("38", "A SYSTEM: its number;", () -> {
            SlidingFlaws x = of(times(15, "step 1 0 0") + ";step 0 9 9;" + times(15, "plane 1 0 0") + ";plane 9 9 -9");
            due("the first", x.system(15, 15), 0);
            due("count(13)", x.count(13), 1);
            due("the second, as the first", x.system(15, 15), 1);
            due("in another", x.system(0, 15), 2);
            due("count(13)", x.count(13), 3);
        });
        test("38", "NONE: there are 8, or the STEP is not in the PLANE (or without these).", () -> {
            SlidingFlaws x = of("step 1 0 0;step 9 -9 1;step 9 -9 0;plane 0 0 1;plane 1 1 0;plane 1 1 1");
            for (int bad : new int[] {-1, 3, 15, 16, MIN, MAX}) {
                due("plane " + bad, x.system(bad, 0), NONE);
                due("step " + bad, x.system(0, bad), NONE);
            }
            due("not in the PLANE, by 1", x.system(1, 0), NONE);
            due("not in the PLANE, by 1", x.system(0, 1), NONE);
            due("not in the PLANE, by 1", x.system(2, 1), NONE);
            due("count(13)", x.count(13), 0);
            due("in the PLANE", x.system(1, 1), 0);
            for (int k = 1; k < 8; k++) {
                due("in the PLANE", x.system(2, 2), k);
            }
            due("there are 8", x.system(2, 2), NONE);
            due("there are 8, and not in the PLANE", x.system(2, 1), NONE);
            due("count(13)", x.count(13), 8);
            due("no TEXT", new SlidingFlaws().system(0, 0), NONE);
        });
        test("40", "A flaw comes to a place of a SYSTEM, as put(): true;", () -> {
            SlidingFlaws x = two("");
            due("fill(0, 0, 1)", x.fill(0, 0, 1), true);
            due("fill(1, 99, -1)", x.fill(1, 99, -1), true);
            same("the first", rowOf(x, 0), "0+");
            same("the second", rowOf(x, 1), "99-");
            due("no act", x.count(14), 0);
            due("THE ROW", x.count(5), 0);
        });
        test("40", "false likewise, or without it.", () -> {
            SlidingFlaws x = two("");
            for (int bad : new int[] {-1, 2, 7, 8, MIN, MAX}) {
                due("system " + bad, x.fill(bad, 50, 1), false);
            }
            for (int bad : new int[] {-1, 100, MIN, MAX}) {
                due("place " + bad, x.fill(0, bad, 1), false);
            }
            for (int bad : new int[] {0, 2, -2, MIN, MAX}) {
                due("sign " + bad, x.fill(0, 50, bad), false);
            }
            due("none is there", x.systems(0, 0) + x.systems(1, 0), 0);
            fill(x, 0, "0+ 99-");
            for (int sign = -1; sign <= 1; sign += 2) {
                due("one is there", x.fill(0, 0, sign), false);
                due("one is there", x.fill(0, 99, sign), false);
            }
            fill(x, 0, flaws(1, 27, "-"));
            due("29 are there", x.fill(0, 50, 1), true);
            due("30 are there", x.fill(0, 51, 1), false);
            due("flaws", x.systems(0, 0), 30);
            due("the other one has room", x.fill(1, 51, 1), true);
            due("THE ROW has room", x.put(51, 1), true);
            due("no SYSTEM", new SlidingFlaws().fill(0, 50, 1), false);
        });
        test("41", "Of a SYSTEM what 0: flaws, 1: SLIPPED, 2: GONE, 3: by how much it is HARDER, 4: OUT, 5: LOST, 6: came, "
            + "100 + p (p 0 to 99): the sign at place p (0 none).", () -> {
            SlidingFlaws x = two(";source 50 2");
            fill(x, 0, "0- 10+ 12- 20+ 99+");
            x.harder(40, 7);
            due("load", x.load(1, 0, 1, 6, 1, 0), 1);
            counts(x, 0, 3, 5, 5, 2, 2, 2);
            due("HARDER", x.systems(0, 3), 2);
            due("HARDER", x.systems(1, 3), 0);
            for (int p = 0; p < 100; p++) {
                due("systems(0, " + (100 + p) + ")", x.systems(0, 100 + p), p == 21 || p == 51 ? 1 : p == 49 ? -1 : 0);
            }
            fill(x, 0, "0- 99+");
            due("place 0", x.systems(0, 100), -1);
            due("place 99", x.systems(0, 199), 1);
        });
        test("41", "-1000000 without it, or for another what.", () -> {
            SlidingFlaws x = two("");
            for (int bad : new int[] {-1, 2, 7, 8, MIN, MAX}) {
                for (int what : new int[] {0, 3, 6, 100, 199}) {
                    due("systems(" + bad + ", " + what + ")", x.systems(bad, what), -1000000);
                }
            }
            for (int bad : new int[] {-1, 7, 8, 50, 99, 200, 201, MIN, MAX}) {
                due("systems(0, " + bad + ")", x.systems(0, bad), -1000000);
            }
            due("no SYSTEM", new SlidingFlaws().systems(0, 0), -1000000);
        });
    }

    private static void harder() {
        test("V", "GONE of a SYSTEM: how many flaws went one place in it, in all (OUT and LOST, too).", () -> {
            SlidingFlaws x = two("");
            fill(x, 0, "50+");
            x.load(1, 0, 1, 2, 3, 0);
            counts(x, 0, 1, 3, 3, 0, 0, 0);
            x.load(-1, 0, 1, 2, 4, 0);
            counts(x, 0, 1, -1, 7, 0, 0, 0);
            fill(x, 0, "99+");
            x.load(1, 0, 1, 2, 1, 0);
            counts(x, 0, 1, 1, 9, 1, 0, 0);
            fill(x, 0, "51-");
            x.load(1, 0, 1, 2, 1, 0);
            counts(x, 0, 0, 2, 10, 1, 2, 0);
            due("none in the other one", x.systems(1, 2), 0);
            // One that stays has not gone.
            tell(x, "speck 60 99 99");
            fill(x, 0, "59+ 60+");
            due("nothing goes", x.load(1, 0, 1, 2, 9, 0), 0);
            due("GONE", x.systems(0, 2), 10);
        });
        test("V", "HARDER: a SYSTEM's HOLDS (not its sources') are more by OWN times its GONE and CROSS times GONE of all others, "
            + "by 100 (downwards);", BoundsOfGrain::hardness);
        test("V", "OWN and CROSS 0 to 999 (0 at first).", () -> {
            SlidingFlaws x = two("");
            fill(x, 0, "0+");
            due("load", x.load(1, 0, 1, 2, 100, 0), 100);
            due("0 at first", x.systems(0, 3), 0);
            due("0 at first", x.systems(1, 3), 0);
            due("harder(999, 0)", x.harder(999, 0), true);
            due("OWN", x.systems(0, 3), 999);
            due("CROSS", x.systems(1, 3), 0);
            due("harder(0, 999)", x.harder(0, 999), true);
            due("OWN", x.systems(0, 3), 0);
            due("CROSS", x.systems(1, 3), 999);
            due("harder(0, 0)", x.harder(0, 0), true);
            due("both", x.systems(0, 3) + x.systems(1, 3), 0);
            due("harder(1000, 0)", x.harder(1000, 0), false);
            due("harder(0, 1000)", x.harder(0, 1000), false);
            due("harder(-1, 0)", x.harder(-1, 0), false);
            due("harder(0, -1)", x.harder(0, -1), false);
        });
        test("39", "OWN and CROSS: true;", () -> {
            SlidingFlaws x = new SlidingFlaws();
            for (int[] both : new int[][] {{0, 0}, {999, 999}, {0, 999}, {999, 0}, {1, 1}}) {
                due("harder()", x.harder(both[0], both[1]), true);
            }
        });
        test("39", "false, and nothing happens, for others.", () -> {
            SlidingFlaws x = two("");
            fill(x, 0, "0+");
            x.load(1, 0, 1, 2, 100, 0);
            x.harder(7, 11);
            for (int bad : new int[] {-1, 1000, -999, MIN, MAX}) {
                due("harder(" + bad + ", 1)", x.harder(bad, 1), false);
                due("harder(1, " + bad + ")", x.harder(1, bad), false);
                due("harder(" + bad + ", " + bad + ")", x.harder(bad, bad), false);
                due("OWN", x.systems(0, 3), 7);
                due("CROSS", x.systems(1, 3), 11);
            }
        });
    }

    private static void hardness() {
        SlidingFlaws x = two("");
        fill(x, 0, "0+");
        x.harder(1, 3);
        int[][] due = {{33, 0, 0}, {34, 0, 1}, {66, 0, 1}, {67, 0, 2}, {99, 0, 2}, {100, 1, 3}};
        int gone = 0;
        for (int[] d : due) {
            x.load(1, 0, 1, 200, d[0] - gone, 0);
            gone = d[0];
            due("GONE", x.systems(0, 2), gone);
            due("OWN times " + gone, x.systems(0, 3), d[1]);
            due("CROSS times " + gone, x.systems(1, 3), d[2]);
        }
        // Added up ahead of the division: 50 and 50 by 100.
        x = two(";base 0 0");
        fill(x, 0, "10+");
        fill(x, 1, "10+");
        x.load(1, 1, 1, 3, 1, 0);
        x.harder(50, 50);
        due("50 and 50", x.systems(0, 3), 1);
        x.harder(50, 49);
        due("50 and 49", x.systems(0, 3), 0);
        x.harder(99, 100);
        due("99 and 100", x.systems(1, 3), 1);
        x.harder(100, 100);
        due("100 and 100", x.systems(1, 3), 2);
        // HOLDS are more by it, of base and speck, by LOW and HIGH: 3 more here.
        for (int side = 0; side <= 1; side++) {
            for (int place = 40; place <= 50; place += 10) {
                for (int way = -1; way <= 1; way += 2) {
                    int hold = place == 50 ? side == 0 ? 7 : 9 : side == 0 ? 2 : 4;
                    x = two(";base 0 0");
                    fill(x, 0, "10+");
                    x.load(1, 0, 1, 2, 1, 0);
                    x.harder(300, 0);
                    tell(x, "base 2 4;speck 50 7 9;speck 11 999 999");
                    fill(x, 0, place + "+");
                    int p = 2 * (hold + 3);
                    due("at the HOLD", x.load(way, 0, 1, p, 1, side), 0);
                    due("less than the next whole number", x.load(way, 0, 1, p + 1, 1, side), 0);
                    due("above the HOLD", x.load(way, 0, 1, p + 2, 1, side), 1);
                    due("it went", x.systems(0, 100 + place + way), 1);
                }
            }
        }
        // Not the sources': 5 is above 4, though all else is held.
        x = two(";base 0 0");
        fill(x, 0, "10+");
        x.load(1, 0, 1, 2, 1, 0);
        x.harder(999, 999);
        due("9.99, downwards", x.systems(0, 3), 9);
        due("9.99, downwards", x.systems(1, 3), 9);
        tell(x, "source 50 4;base 0 0");
        due("not above 4", x.load(1, 0, 1, 8, 5, 0), 0);
        due("above 4", x.load(1, 0, 1, 10, 5, 0), 1);
        same("the first", rowOf(x, 0), "11+ 49- 51+");
        // THE ROW is not harder.
        put(x, "20+");
        due("THE ROW", x.run(1, 1, 0), 1);
        // GONE of all others, of eight.
        x = of(WAYS);
        for (int k = 0; k < 8; k++) {
            x.system(0, 0);
            fill(x, k, "0+");
        }
        x.load(1, 0, 1, 2, 10, 0);
        x.harder(10, 100);
        for (int k = 0; k < 8; k++) {
            due("of eight", x.systems(k, 3), 1 + 70);
        }
    }

    private static void pulls() {
        test("V", "A PULL of P (0 to 9999) along t (as SHARE): on each SYSTEM Q is the greatest whole number whose square is not above "
            + "P times P times SHARE's square, below 0 if (t * n) * (t * b) is.", () -> {
            SlidingFlaws x = two("");
            // A half, and a third of it.
            int[][] half = {{0, 0}, {1, 0}, {2, 1}, {3, 1}, {4, 2}, {9998, 4999}, {9999, 4999}};
            for (int[] h : half) {
                due("pulled(1, 0, 1, " + h[0] + ")", x.pulled(1, 0, 1, h[0], 0), h[1]);
                due("pulled(-1, 0, 1, " + h[0] + ")", x.pulled(-1, 0, 1, h[0], 0), -h[1]);
                due("pulled(1, 0, -1, " + h[0] + ")", x.pulled(1, 0, -1, h[0], 0), -h[1]);
                due("pulled(-9, 0, -9, " + h[0] + ")", x.pulled(-9, 0, -9, h[0], 0), h[1]);
            }
            int[][] third = {{0, 0}, {2, 0}, {3, 1}, {5, 1}, {6, 2}, {9998, 3332}, {9999, 3333}};
            for (int[] t : third) {
                due("pulled(1, 1, 1, " + t[0] + ", 0)", x.pulled(1, 1, 1, t[0], 0), t[1]);
                due("pulled(1, -1, 1, " + t[0] + ", 1)", x.pulled(1, -1, 1, t[0], 1), -t[1]);
            }
            for (int p : new int[] {0, 1, 9999}) {
                due("no SHARE", x.pulled(1, 0, 0, p, 0), 0);
                due("no SHARE", x.pulled(0, -1, 9, p, 1), 0);
            }
            // The root of 1 by 8: squares of 2, 3, 9999 are by it 0.5, 1.125, 12497500.125.
            SlidingFlaws y = of("plane 0 0 1;step 1 1 0;step -9 9 0");
            y.system(0, 0);
            y.system(0, 1);
            int[][] root = {{2, 0}, {3, 1}, {5, 1}, {6, 2}, {8, 2}, {9, 3}, {9999, 3535}, {9998, 3534}};
            for (int[] r : root) {
                due("pulled(0, 1, 1, " + r[0] + ")", y.pulled(0, 1, 1, r[0], 0), r[1]);
                due("pulled(0, -1, 1, " + r[0] + ")", y.pulled(0, -1, 1, r[0], 0), -r[1]);
                due("pulled(0, 1, 1, " + r[0] + ", 1)", y.pulled(0, 1, 1, r[0], 1), r[1]);
                due("pulled(1, 0, 1, " + r[0] + ", 1)", y.pulled(1, 0, 1, r[0], 1), -r[1]);
            }
        });
        test("42", "Q on a SYSTEM by a PULL;", () -> {
            SlidingFlaws x = two("");
            due("the first", x.pulled(9, 0, 9, 9999, 0), 4999);
            due("the second", x.pulled(9, -9, 0, 9999, 1), -4999);
            due("nothing", x.pulled(9, -9, 0, 9999, 0), 0);
            tell(x, "");
            due("kept as ways", x.pulled(9, 0, 9, 9999, 0), 4999);
        });
        test("42", "-1000000 without these.", () -> {
            SlidingFlaws x = two("");
            for (int bad : new int[] {-10, 10, MIN, MAX}) {
                due("x " + bad, x.pulled(bad, 1, 1, 1, 0), -1000000);
                due("y " + bad, x.pulled(1, bad, 1, 1, 0), -1000000);
                due("z " + bad, x.pulled(1, 1, bad, 1, 0), -1000000);
            }
            due("no way", x.pulled(0, 0, 0, 1, 0), -1000000);
            for (int bad : new int[] {-1, 10000, MIN, MAX}) {
                due("p " + bad, x.pulled(1, 0, 1, bad, 0), -1000000);
            }
            for (int bad : new int[] {-1, 2, 7, 8, MIN, MAX}) {
                due("system " + bad, x.pulled(1, 0, 1, 1, bad), -1000000);
            }
            due("no SYSTEM", new SlidingFlaws().pulled(1, 0, 1, 1, 0), -1000000);
        });
    }

    private static void loads() {
        test("V", "A STEP OF THE GRAIN, by LOW or HIGH: what all are HARDER by is looked at; then each SYSTEM, by numbers, "
            + "has one TICK with its Q.", () -> {
            SlidingFlaws x = two(";base 3 6");
            fill(x, 0, "10+");
            fill(x, 1, "10-");
            due("3 by LOW", x.load(1, 1, 1, 9, 1, 0), 0);
            due("4 by LOW", x.load(1, 1, 1, 12, 1, 0), 1);
            due("6 by HIGH", x.load(1, 1, 1, 18, 1, 1), 0);
            due("7 by HIGH", x.load(1, 1, 1, 21, 1, 1), 1);
            due("the first", x.systems(0, 112), 1);
            due("the second", x.systems(1, 108), -1);
            // With its Q: 4 on the first, -4 on the second one.
            due("other ways", x.load(1, -1, 1, 12, 1, 0), 1);
            due("the first", x.systems(0, 113), 1);
            due("the second", x.systems(1, 109), -1);
            due("on the second alone", x.load(1, 1, 0, 8, 1, 0), 1);
            same("the first", rowOf(x, 0), "13+");
            same("the second", rowOf(x, 1), "8-");
            // What all are HARDER by is looked at ahead of the first one's TICK, and ahead of each STEP.
            for (int many = 2; many <= 8; many++) {
                x = of(WAYS);
                for (int k = 0; k < many; k++) {
                    x.system(0, 0);
                    fill(x, k, "10+");
                }
                x.harder(999, 999);
                due("load", x.load(1, 0, 1, 2, 5, 0), 1);
                for (int k = 0; k < many; k++) {
                    due("all went, " + k, x.systems(k, 111), 1);
                    due("HARDER", x.systems(k, 3), 999 * many / 100);
                }
            }
            x = two("");
            fill(x, 0, "10+");
            x.harder(50, 0);
            due("three STEPS: 0, 0 and 1 are HARDER", x.load(1, 0, 1, 2, 9, 0), 2);
            due("1 is not above 1", x.load(1, 0, 1, 2, 9, 0), 0);
            due("two more: 1 and 1", x.load(1, 0, 1, 4, 9, 0), 2);
        });
        test("V", "A LOAD: so many of these (0 to 200); it ends ahead of one in which nothing would go, be gone or come in any.", () -> {
            SlidingFlaws x = two(";base 0 0");
            due("nothing there", x.load(1, 1, 1, 9999, 200, 0), 0);
            fill(x, 0, "0+");
            due("none", x.load(1, 0, 1, 2, 0, 0), 0);
            due("one", x.load(1, 0, 1, 2, 1, 0), 1);
            due("to the end", x.load(1, 0, 1, 2, 200, 0), 99);
            due("out", x.systems(0, 4), 1);
            due("nothing left", x.load(1, 0, 1, 2, 200, 0), 0);
            // As long as it goes on in any: in the second it goes on longer, then in the first.
            fill(x, 0, "90+");
            fill(x, 1, "70+");
            due("the second goes on", x.load(1, 1, 1, 3, 200, 0), 30);
            fill(x, 0, "70+");
            fill(x, 1, "90+");
            due("the first goes on", x.load(1, 1, 1, 3, 200, 0), 30);
            // A STEP in which something is lost alone, or comes alone.
            x = two(";base 999 999;speck 50 0 0");
            fill(x, 1, "50+ 51-");
            due("lost", x.load(1, 1, 0, 2, 200, 0), 1);
            x = two(";base 999 999;source 50 0");
            due("came", x.load(1, 1, 0, 2, 200, 0), 1);
            due("came", x.systems(1, 6), 2);
            // It goes on for as long as it may.
            x = two(";base 0 0;source 50 0");
            due("199", x.load(1, 0, 1, 2, 199, 0), 199);
            due("200", x.load(1, 0, 1, 2, 200, 1), 200);
            due("201", x.load(1, 0, 1, 2, 201, 0), NONE);
            due("-1", x.load(1, 0, 1, 2, -1, 0), NONE);
        });
        test("43", "A LOAD: how many STEPS;", () -> {
            SlidingFlaws x = two(";base 5 9");
            fill(x, 0, "50+");
            due("by LOW", x.load(1, 0, 1, 12, 7, 0), 7);
            due("by HIGH", x.load(1, 0, 1, 12, 7, 1), 0);
            due("by LOW, not above", x.load(1, 0, 1, 11, 7, 0), 0);
            due("by HIGH, above", x.load(1, 0, 1, 20, 7, 1), 7);
            due("no pull", x.load(1, 0, 1, 0, 200, 0), 0);
            due("the greatest", x.load(9, -9, 9, 9999, 200, 1), 36);
            due("no SYSTEM", new SlidingFlaws().load(1, 0, 0, 9999, 200, 0), 0);
        });
        test("43", "NONE, and nothing happens, without these.", () -> {
            SlidingFlaws x = two(";base 0 0;source 50 0");
            fill(x, 0, "10+");
            for (int bad : new int[] {-10, 10, MIN, MAX}) {
                due("x " + bad, x.load(bad, 1, 1, 9, 1, 0), NONE);
                due("y " + bad, x.load(1, bad, 1, 9, 1, 0), NONE);
                due("z " + bad, x.load(1, 1, bad, 9, 1, 0), NONE);
            }
            due("no way", x.load(0, 0, 0, 9, 1, 0), NONE);
            for (int bad : new int[] {-1, 10000, MIN, MAX}) {
                due("p " + bad, x.load(1, 0, 1, bad, 1, 0), NONE);
            }
            for (int bad : new int[] {-1, 201, MIN, MAX}) {
                due("steps " + bad, x.load(1, 0, 1, 9, bad, 0), NONE);
            }
            for (int bad : new int[] {-1, 2, MIN, MAX}) {
                due("side " + bad, x.load(1, 0, 1, 9, 1, bad), NONE);
            }
            same("the first", rowOf(x, 0), "10+");
            counts(x, 0, 1, 0, 0, 0, 0, 0);
            counts(x, 1, 0, 0, 0, 0, 0, 0);
        });
    }

    private static void strains() {
        test("V", "STRAIN along t: the sum over SYSTEMS of SLIPPED times (t * n) * (t * b).", () -> {
            SlidingFlaws x = two("");
            fill(x, 0, "10+ 30+");
            fill(x, 1, "10-");
            x.load(1, 2, 3, 9999, 2, 0);
            due("SLIPPED", x.systems(0, 1), 4);
            due("SLIPPED", x.systems(1, 1), 2);
            due("along (1, 2, 3)", x.strain(1, 2, 3), 4 * 3 + 2 * 2);
            due("along (1, -2, 3)", x.strain(1, -2, 3), 4 * 3 - 2 * 2);
            due("along (-1, 2, 3)", x.strain(-1, 2, 3), -4 * 3 - 2 * 2);
            due("along (1, 0, 0)", x.strain(1, 0, 0), 0);
            due("along (9, 9, -9)", x.strain(9, 9, -9), -4 * 81 + 2 * 81);
            large();
        });
        test("44", "STRAIN along (x, y, z) as it is;", () -> {
            SlidingFlaws x = two("");
            due("none slipped", x.strain(9, 9, 9), 0);
            due("no SYSTEMS", new SlidingFlaws().strain(9, 9, 9), 0);
            fill(x, 0, "10+");
            x.load(1, 0, 1, 2, 5, 0);
            due("along (-9, 0, 9)", x.strain(-9, 0, 9), -5 * 81);
            due("along (9, 9, 9)", x.strain(9, 9, 9), 5 * 81);
            due("along (0, 0, 1)", x.strain(0, 0, 1), 0);
            tell(x, "");
            due("kept as ways", x.strain(9, 9, 9), 5 * 81);
            x.load(1, 0, 1, 2, 1, 0);
            due("as it is", x.strain(1, 0, 1), 6);
        });
        test("44", "-1000000000000000 without these.", () -> {
            SlidingFlaws x = two("");
            due("no way", x.strain(0, 0, 0), NO_STRAIN);
            for (int bad : new int[] {-10, 10, MIN, MAX}) {
                due("x " + bad, x.strain(bad, 1, 1), NO_STRAIN);
                due("y " + bad, x.strain(1, bad, 1), NO_STRAIN);
                due("z " + bad, x.strain(1, 1, bad), NO_STRAIN);
            }
            due("with these", x.strain(-9, 9, -9), 0);
        });
        test("V", "SHAPE of THE GRAIN: the sum over SYSTEMS of SLIPPED times b's part i times n's part j.", () -> {
            SlidingFlaws x = of("step 1 2 3;step 9 -9 9;plane 3 3 -3;plane 1 2 1");
            due("the first", x.system(0, 0), 0);
            due("the second", x.system(1, 1), 1);
            fill(x, 0, "10+ 90+");
            fill(x, 1, "10-");
            due("load", x.load(0, 0, 1, 9999, 1, 0), 1);
            due("SLIPPED", x.systems(0, 1), -2);
            due("SLIPPED", x.systems(1, 1), 1);
            int[][] b = {{1, 2, 3}, {9, -9, 9}};
            int[][] n = {{3, 3, -3}, {1, 2, 1}};
            for (int i = 0; i < 3; i++) {
                for (int j = 0; j < 3; j++) {
                    due("form(" + i + ", " + j + ")", x.form(i, j), -2 * b[0][i] * n[0][j] + b[1][i] * n[1][j]);
                }
            }
        });
        test("47", "SHAPE of THE GRAIN, parts i and j (0 to 2);", () -> {
            SlidingFlaws x = two("");
            for (int i = 0; i < 3; i++) {
                for (int j = 0; j < 3; j++) {
                    due("none slipped", x.form(i, j), 0);
                }
            }
            due("no SYSTEMS", new SlidingFlaws().form(2, 2), 0);
            fill(x, 0, "10+");
            x.load(1, 0, 1, 2, 5, 0);
            tell(x, "");
            due("form(0, 2)", x.form(0, 2), 5);
            due("form(2, 0)", x.form(2, 0), 0);
        });
        test("47", "-1000000000000000 without these.", () -> {
            SlidingFlaws x = two("");
            for (int bad : new int[] {-1, 3, 4, MIN, MAX}) {
                due("i " + bad, x.form(bad, 0), NO_STRAIN);
                due("j " + bad, x.form(0, bad), NO_STRAIN);
                due("both " + bad, x.form(bad, bad), NO_STRAIN);
            }
        });
    }

    /** Beyond an int: STRAIN, and OWN times GONE. */
    private static void large() {
        SlidingFlaws x = of("step 0 0 9;plane 9 9 0;base 0 0;source 50 0;source 53 0;source 56 0;source 44 0;source 40 0");
        for (int k = 0; k < 8; k++) {
            x.system(0, 0);
        }
        for (int i = 0; i < 200; i++) {
            x.load(9, 9, 9, 9999, 200, 0);
        }
        long slipped = 0;
        long gone = 0;
        for (int k = 0; k < 8; k++) {
            slipped += x.systems(k, 1);
            gone += x.systems(k, 2);
        }
        due("STRAIN is beyond an int", slipped * 162 * 81 > 2L * MAX, true);
        due("STRAIN", x.strain(9, 9, 9), slipped * 162 * 81);
        due("STRAIN", x.strain(9, 9, -9), -slipped * 162 * 81);
        due("SHAPE", x.form(2, 0), slipped * 81);
        x.harder(999, 998);
        due("OWN times GONE is beyond an int", 998 * gone > 2L * MAX, true);
        for (int k = 0; k < 8; k++) {
            long own = x.systems(k, 2);
            due("HARDER", x.systems(k, 3), (999 * own + 998 * (gone - own)) / 100);
        }
    }

    private static void curves() {
        test("V", "THE CURVE: pulls of first, first + by, .. (n of them, 1 to 20; by -9999 to 9999; each 0 to 9999), each a LOAD of at most "
            + "m STEPS (1 to 50) by HIGH: of each the STRAIN along t behind it.", BoundsOfGrain::points);
        test("45", "THE CURVE: the STRAIN behind all;", () -> {
            SlidingFlaws x = two(";base 2 4");
            fill(x, 0, "10+");
            fill(x, 1, "20+");
            due("up: 0, 2 and 2 more", x.curve(1, 0, 1, 8, 2, 3, 2), 4);
            due("one more, by itself", x.curve(1, 0, 1, 10, -9999, 1, 1), 5);
            due("what slipped ahead of it counts", x.curve(1, 0, 1, 0, 0, 1, 1), 5);
            due("along another way", x.curve(0, 1, 1, 0, 0, 1, 1), 0);
            due("no SYSTEMS", new SlidingFlaws().curve(1, 0, 0, 9999, 0, 20, 50), 0);
        });
        test("45", "-1000000000000000, and nothing happens, without these.", () -> {
            SlidingFlaws x = two(";base 0 0");
            fill(x, 0, "10+");
            due("one that is", x.curve(1, 0, 1, 2, 1, 2, 1), 2);
            for (int bad : new int[] {-10, 10, MIN, MAX}) {
                due("x " + bad, x.curve(bad, 1, 1, 9, 1, 3, 1), NO_STRAIN);
                due("y " + bad, x.curve(1, bad, 1, 9, 1, 3, 1), NO_STRAIN);
                due("z " + bad, x.curve(1, 1, bad, 9, 1, 3, 1), NO_STRAIN);
            }
            due("no way", x.curve(0, 0, 0, 9, 1, 3, 1), NO_STRAIN);
            for (int bad : new int[] {-1, 10000, MIN, MAX}) {
                due("first " + bad, x.curve(1, 0, 1, bad, 0, 1, 1), NO_STRAIN);
                due("first " + bad, x.curve(1, 0, 1, bad, 1, 2, 1), NO_STRAIN);
                due("first " + bad, x.curve(1, 0, 1, bad, -1, 2, 1), NO_STRAIN);
            }
            for (int bad : new int[] {-10000, 10000, MIN, MAX}) {
                due("by " + bad, x.curve(1, 0, 1, 9, bad, 1, 1), NO_STRAIN);
                due("by " + bad, x.curve(1, 0, 1, 0, bad, 2, 1), NO_STRAIN);
                due("by " + bad, x.curve(1, 0, 1, 9999, bad, 2, 1), NO_STRAIN);
            }
            for (int bad : new int[] {-1, 0, 21, MIN, MAX}) {
                due("n " + bad, x.curve(1, 0, 1, 9, 1, bad, 1), NO_STRAIN);
                due("n " + bad, x.curve(1, 0, 1, 9, 0, bad, 1), NO_STRAIN);
            }
            for (int bad : new int[] {-1, 0, 51, MIN, MAX}) {
                due("m " + bad, x.curve(1, 0, 1, 9, 1, 3, bad), NO_STRAIN);
            }
            int[][] last = {{9999, 1, 2}, {9998, 1, 3}, {9981, 1, 20}, {0, -1, 2}, {1, -1, 3}, {18, -1, 20}, {1, 9999, 2}, {0, 9999, 3},
                {9998, -9999, 2}, {9999, -9999, 3}, {0, 527, 20}, {9999, 9999, 20}, {0, -9999, 20}};
            for (int[] l : last) {
                due("first " + l[0] + ", by " + l[1] + ", n " + l[2], x.curve(1, 0, 1, l[0], l[1], l[2], 1), NO_STRAIN);
            }
            same("the first", rowOf(x, 0), "12+");
            counts(x, 0, 1, 2, 2, 0, 0, 0);
            due("curved(0)", x.curved(0), 1);
            due("curved(1)", x.curved(1), 2);
            due("curved(2)", x.curved(2), NO_STRAIN);
        });
        test("46", "The STRAIN behind the k-th pull of the latest curve() that was not refused;", () -> {
            SlidingFlaws x = two(";base 0 0");
            fill(x, 0, "10+");
            due("twenty", x.curve(1, 0, 1, 2, 0, 20, 1), 20);
            for (int k = 0; k < 20; k++) {
                due("curved(" + k + ")", x.curved(k), k + 1);
            }
            due("refused", x.curve(1, 0, 1, 2, 0, 21, 1), NO_STRAIN);
            due("curved(19)", x.curved(19), 20);
            due("one", x.curve(-1, 0, 1, 2, 0, 1, 3), -17);
            due("curved(0)", x.curved(0), -17);
            due("curved(1)", x.curved(1), NO_STRAIN);
            x.load(1, 0, 1, 2, 5, 0);
            tell(x, "");
            due("it stays", x.curved(0), -17);
        });
        test("46", "-1000000000000000.", () -> {
            SlidingFlaws x = two("");
            for (int bad : new int[] {-1, 0, 1, 19, 20, MIN, MAX}) {
                due("none yet", x.curved(bad), NO_STRAIN);
            }
            due("twenty", x.curve(1, 0, 1, 0, 0, 20, 1), 0);
            for (int bad : new int[] {-1, 20, 21, MIN, MAX}) {
                due("curved(" + bad + ")", x.curved(bad), NO_STRAIN);
            }
            due("two", x.curve(1, 0, 1, 0, 0, 2, 1), 0);
            for (int bad : new int[] {-1, 2, 19, 20}) {
                due("curved(" + bad + ")", x.curved(bad), NO_STRAIN);
            }
        });
    }

    private static void points() {
        SlidingFlaws x = two(";base 2 4");
        fill(x, 0, "10+");
        // By HIGH: 8 comes to 4, which is not above 4.
        due("8, 9, 10, 11, 12", x.curve(1, 0, 1, 8, 1, 5, 3), 9);
        long[] due = {0, 0, 3, 6, 9};
        for (int k = 0; k < 5; k++) {
            due("curved(" + k + ")", x.curved(k), due[k]);
        }
        due("12, 10, 8", x.curve(1, 0, 1, 12, -2, 3, 1), 11);
        due("curved(0)", x.curved(0), 10);
        due("curved(2)", x.curved(2), 11);
        // The bounds of all: n 1 and 20, m 1 and 50, by and the pulls.
        int[][] good = {{0, 0, 1, 1}, {9999, 0, 20, 1}, {0, 9999, 2, 1}, {9999, -9999, 2, 1}, {0, 526, 20, 1}, {9994, -526, 20, 1},
            {9980, 1, 20, 1}, {19, -1, 20, 1}, {0, 9999, 1, 50}, {9999, -9999, 1, 50}, {9999, 9999, 1, 1}, {0, -9999, 1, 1}};
        for (int[] g : good) {
            due("first " + g[0] + ", by " + g[1] + ", n " + g[2] + ", m " + g[3], x.curve(1, 0, 0, g[0], g[1], g[2], g[3]), 0);
            due("the last one", x.curved(g[2] - 1), 0);
            due("behind it", x.curved(g[2]), NO_STRAIN);
        }
        // At most m STEPS each: 50 of them, then what is left up to the rim.
        x = two(";base 0 0");
        fill(x, 0, "0+");
        due("50 and 50", x.curve(1, 0, 1, 2, 0, 3, 50), 100);
        due("curved(0)", x.curved(0), 50);
        due("curved(1)", x.curved(1), 100);
        due("curved(2)", x.curved(2), 100);
        // Each behind the one before, in the ROW and what is HARDER.
        x = two(";base 0 0");
        fill(x, 0, "0+");
        x.harder(100, 0);
        due("2 goes once, 4 once, 6 once, 4 no more", x.curve(1, 0, 1, 2, 2, 3, 9), 3);
        due("curved(0)", x.curved(0), 1);
        due("curved(1)", x.curved(1), 2);
        due("6 no more", x.curve(1, 0, 1, 6, 0, 1, 9), 3);
        due("the pull's sign", x.curve(-1, 0, 1, 8, 0, 1, 9), -2);
    }

    private static void walls() {
        test("V", "WALL at a place: the longest row of SYSTEMS one behind the other (by numbers) of one PLANE and one STEP "
            + "(alike in all parts) that have flaws of one sign at that place: how many (0: none); of several the first.", () -> {
            // Two and three of one way, then others: turned, longer, another PLANE, in each part.
            String[] texts = {"1 1 0;step 1 1 0;plane 0 0 1;plane 0 0 1", "1 1 0;step 1 1 1;plane 1 -1 0;plane 1 -1 0",
                "1 1 0;step 1 0 0;plane 0 0 1;plane 0 0 1", "1 1 0;step 0 1 0;plane 0 0 1;plane 0 0 1",
                "1 1 0;step -1 -1 0;plane 0 0 1;plane 0 0 1", "1 1 0;step 2 2 0;plane 0 0 1;plane 0 0 1",
                "1 1 0;step 1 1 0;plane 0 0 1;plane 0 0 2", "1 1 0;step 1 1 0;plane 0 0 1;plane 0 0 -1",
                "1 1 0;step 1 1 0;plane 1 -1 1;plane 1 -1 0", "0 0 1;step 0 0 1;plane 1 1 0;plane 1 0 0",
                "0 0 1;step 0 0 1;plane 1 1 0;plane 0 1 0"};
            for (int t = 0; t < texts.length; t++) {
                SlidingFlaws x = of("step " + texts[t]);
                due("system()", x.system(0, 0), 0);
                due("system()", x.system(1, 1), 1);
                fill(x, 0, "5+");
                due("the first alone", x.wall(5), 1);
                fill(x, 1, "5+ 6+");
                due("ways of " + texts[t], x.wall(5), t == 0 ? 2 : 1);
                due("at another place", x.wall(6), 1);
                due("at none", x.wall(7), 0);
            }
            SlidingFlaws x = of("step 1 0 0;plane 0 0 1;step 0 1 0");
            for (int k = 0; k < 8; k++) {
                x.system(0, 0);
                fill(x, k, "0- 99+");
                due("so many", x.wall(0), k + 1);
                due("so many", x.wall(99), k + 1);
                // Of one sign: none is beside one of its own.
                fill(x, k, k % 2 == 0 ? "50+" : "50-");
                due("of one sign", x.wall(50), 1);
                // One behind the other: a gap in between.
                fill(x, k, k == 3 ? "" : "60+");
                due("one behind the other", x.wall(60), k < 3 ? k + 1 : k < 7 ? 3 : 4);
                fill(x, k, k == 4 ? "70-" : "70+");
                due("the other sign between", x.wall(70), k < 4 ? k + 1 : 4);
            }
            due("none", x.wall(80), 0);
        });
        test("48", "WALL at a place: how many;", () -> {
            SlidingFlaws x = two("");
            due("none", x.wall(0), 0);
            fill(x, 0, "0+ 99-");
            fill(x, 1, "99-");
            due("one", x.wall(0), 1);
            due("one of another way", x.wall(99), 1);
            due("no SYSTEM", new SlidingFlaws().wall(99), 0);
        });
        test("48", "NONE without it.", () -> {
            SlidingFlaws x = two("");
            for (int bad : new int[] {-1, 100, 199, MIN, MAX}) {
                due("wall(" + bad + ")", x.wall(bad), NONE);
            }
        });
        test("V", "Its TILT: that many times the sign times the STEP's parts.", () -> {
            SlidingFlaws x = of("step 9 -9 9;plane 1 1 0;step 1 2 3;plane 2 -1 0");
            for (int k = 0; k < 8; k++) {
                x.system(0, 0);
                fill(x, k, "5+ 6-");
                for (int part = 0; part < 3; part++) {
                    int each = part == 1 ? -9 : 9;
                    due("tilt(5, " + part + ")", x.tilt(5, part), (k + 1) * each);
                    due("tilt(6, " + part + ")", x.tilt(6, part), -(k + 1) * each);
                }
            }
            // Of several the first: two of one way, then two of another; then three.
            x = of("step 9 -9 9;plane 1 1 0;step 1 2 3;plane 2 -1 0");
            for (int k = 0; k < 6; k++) {
                x.system(k < 2 ? 0 : 1, k < 2 ? 0 : 1);
                fill(x, k, k < 4 ? "5+" : "");
                fill(x, k, k < 5 ? "6-" : "");
                fill(x, k, k < 2 ? "7+" : k < 4 ? "7-" : "7+");
            }
            due("the first of two", x.wall(5), 2);
            due("the first of two", x.tilt(5, 0), 18);
            due("the longest", x.wall(6), 3);
            due("the longest", x.tilt(6, 1), -6);
            due("the first of three", x.wall(7), 2);
            due("the first of three", x.tilt(7, 1), -18);
        });
        test("49", "TILT at a place, part 0 to 2 (0 without a WALL);", () -> {
            SlidingFlaws x = two("");
            for (int part = 0; part < 3; part++) {
                due("without a WALL", x.tilt(0, part), 0);
                due("without a WALL", x.tilt(99, part), 0);
                due("no SYSTEM", new SlidingFlaws().tilt(50, part), 0);
            }
            fill(x, 1, "0- 99+");
            for (int part = 0; part < 3; part++) {
                due("tilt(0, " + part + ")", x.tilt(0, part), part == 1 ? -1 : 0);
                due("tilt(99, " + part + ")", x.tilt(99, part), part == 1 ? 1 : 0);
                due("without a WALL", x.tilt(50, part), 0);
            }
            tell(x, "");
            due("kept as ways", x.tilt(99, 1), 1);
        });
        test("49", "-100000 without these.", () -> {
            SlidingFlaws x = two("");
            for (int bad : new int[] {-1, 100, MIN, MAX}) {
                due("tilt(" + bad + ", 0)", x.tilt(bad, 0), -100000);
            }
            for (int bad : new int[] {-1, 3, MIN, MAX}) {
                due("tilt(0, " + bad + ")", x.tilt(0, bad), -100000);
            }
        });
    }
}
