/** Each sentence of part II and of promises 8 to 19. */
final class BoundsOfLines extends Bounds {
    static void all() {
        knotsAndLines();
        sums();
        meeting();
        parting();
        leasts();
        groups();
        shares();
        firsts();
    }

    private static SlidingFlaws knots(String text, int many) {
        SlidingFlaws x = of(text);
        for (int i = 0; i < many; i++) {
            x.knot(false);
        }
        return x;
    }

    /** Two KNOTS inside, and LINES from the first to the second one. */
    private static SlidingFlaws lines(String text, int[]... steps) {
        SlidingFlaws x = knots(text, 2);
        for (int[] s : steps) {
            if (x.line(0, 1, s[0], s[1], s[2]) < 0) {
                fail("no line");
            }
        }
        return x;
    }

    private static int[] step(int x, int y, int z) {
        return new int[] {x, y, z};
    }

    private static void line(SlidingFlaws x, int k, int... due) {
        for (int what = 0; what < due.length; what++) {
            due("lines(" + k + ", " + what + ")", x.lines(k, what), due[what]);
        }
    }

    private static void noLine(SlidingFlaws x, int k) {
        for (int what = 0; what < 6; what++) {
            due("lines(" + k + ", " + what + ")", x.lines(k, what), -1000);
        }
    }

    // ---- KNOTS, LINES, SUMS: the terms, and promises 8 to 12

    private static void knotsAndLines() {
        test("II", "KNOTS 0 to 59, at a rim or inside;", () -> {
            SlidingFlaws x = new SlidingFlaws();
            for (int i = 0; i < 60; i++) {
                due("knot()", x.knot(i == 0), i);
            }
            due("a LINE from the last KNOT", x.line(59, 0, 1, 0, 0), 0);
            due("behind the last KNOT", x.line(60, 0, 1, 0, 0), NONE);
            due("the first KNOT inside", x.unsound(), 59);
            due("sum(59, 0)", x.sum(59, 0), 1);
            due("sum(60, 0)", x.sum(60, 0), -100000);
        });
        test("8", "A KNOT, at a rim or inside: its number;", () -> {
            SlidingFlaws x = new SlidingFlaws();
            due("the first", x.knot(true), 0);
            due("count(3)", x.count(3), 1);
            due("the second", x.knot(false), 1);
            x.line(0, 1, 1, 0, 0);
            due("at the rim none is looked at", x.unsound(), 1);
        });
        test("8", "NONE: there are 60.", () -> {
            SlidingFlaws x = knots("", 59);
            due("count(3)", x.count(3), 59);
            due("the sixtieth", x.knot(true), 59);
            due("one more", x.knot(true), NONE);
            due("one more", x.knot(false), NONE);
            due("count(3)", x.count(3), 60);
            due("sound", x.unsound(), NONE);
            x.line(59, 58, 1, 0, 0);
            due("the last is at the rim", x.unsound(), 58);
        });
        test("II", "LINES 0 to 119 from one KNOT to another one,", () -> {
            SlidingFlaws x = knots("", 3);
            for (int i = 0; i < 120; i++) {
                due("line()", x.line(i % 3, (i + 1) % 3, 1, i % 100, 0), i);
            }
            due("one more", x.line(0, 1, 1, 0, 0), NONE);
            line(x, 0, 1, 0, 0, 0, 1, 1);
            line(x, 119, 1, 19, 0, 2, 0, 362);
            noLine(x, 120);
        });
        test("II", "each with a STEP (x, y, z each -99 to 99, not all 0; it need not be of the TEXT).", () -> {
            SlidingFlaws x = knots("step 1 0 0", 2);
            int told = 0;
            for (int part = 0; part < 3; part++) {
                for (int value : new int[] {-99, 99, -1, 1}) {
                    int[] s = {0, 0, 0};
                    s[part] = value;
                    due("line()", x.line(0, 1, s[0], s[1], s[2]), told);
                    line(x, told, s[0], s[1], s[2], 0, 1, value * value);
                    told++;
                }
                for (int value : new int[] {-100, 100, 101, -101, 199, MIN, MAX, 65536, 1 << 24}) {
                    int[] s = {1, 1, 1};
                    s[part] = value;
                    due("line() with " + value, x.line(0, 1, s[0], s[1], s[2]), NONE);
                }
            }
            due("all 0", x.line(0, 1, 0, 0, 0), NONE);
            due("count(4)", x.count(4), told);
            due("the greatest", x.line(1, 0, -99, 99, -99), told);
            line(x, told, -99, 99, -99, 1, 0, 29403);
        });
        test("9", "A LINE: its number;", () -> {
            SlidingFlaws x = knots("", 2);
            due("the first", x.line(0, 1, 1, 0, 0), 0);
            due("the second", x.line(1, 0, 1, 0, 0), 1);
            due("both go", x.meet(0, 1), 1);
            due("the third", x.line(1, 0, 1, 0, 0), 2);
            due("count(4)", x.count(4), 1);
        });
        test("9", "NONE: 120 were told, none such KNOTS, both one, or no such STEP.", () -> {
            SlidingFlaws x = knots("", 2);
            for (int bad : new int[] {-1, 2, 3, 59, 60, MIN, MAX}) {
                due("from " + bad, x.line(bad, 1, 1, 0, 0), NONE);
                due("to " + bad, x.line(0, bad, 1, 0, 0), NONE);
                due("both " + bad, x.line(bad, bad, 1, 0, 0), NONE);
            }
            due("both one", x.line(0, 0, 1, 0, 0), NONE);
            due("both one", x.line(1, 1, 1, 0, 0), NONE);
            due("no such STEP", x.line(0, 1, 0, 0, 0), NONE);
            due("no such STEP", x.line(0, 1, 100, 0, 0), NONE);
            due("none is there", x.count(4), 0);
            due("the first", x.line(0, 1, 1, 0, 0), 0);
            // 120 were told, even if they have gone.
            x = knots("", 2);
            for (int i = 0; i < 119; i++) {
                x.line(0, 1, i % 2 == 0 ? 5 : -5, 0, 0);
            }
            for (int i = 0; i < 118; i += 2) {
                x.meet(i, i + 1);
            }
            due("one is there", x.count(4), 1);
            due("one short of 120", x.line(0, 1, 1, 0, 0), 119);
            due("120 were told", x.line(0, 1, 1, 0, 0), NONE);
            due("count(4)", x.count(4), 2);
        });
        test("10", "Of a LINE that is there what 0, 1, 2: its STEP's part, 3: from, 4: to, 5: WORTH.", () -> {
            SlidingFlaws x = knots("", 60);
            x.line(59, 0, -99, 0, 99);
            x.line(1, 58, 0, 0, -1);
            line(x, 0, -99, 0, 99, 59, 0, 19602);
            line(x, 1, 0, 0, -1, 1, 58, 1);
        });
        test("10", "-1000 without it, or for another what.", () -> {
            SlidingFlaws x = lines("", step(1, 2, 3), step(1, 0, 0), step(-1, 0, 0));
            for (int bad : new int[] {-1, 3, 119, 120, MIN, MAX}) {
                noLine(x, bad);
            }
            for (int bad : new int[] {-1, 6, 7, 100, MIN, MAX}) {
                due("lines(0, " + bad + ")", x.lines(0, bad), -1000);
            }
            x.meet(1, 2);
            noLine(x, 1);
            noLine(x, 2);
            due("the last what", x.lines(0, 5), 14);
        });
    }

    private static void sums() {
        test("II", "The SUM at a KNOT: the STEPS of LINES from it less those of LINES to it.", () -> {
            SlidingFlaws x = knots("", 3);
            due("without LINES", x.sum(0, 0), 0);
            for (int i = 0; i < 120; i++) {
                x.line(0, 1, 99, -99, i == 119 ? 1 : 0);
            }
            due("the greatest", x.sum(0, 0), 120 * 99);
            due("the least", x.sum(0, 1), -120 * 99);
            due("one alone", x.sum(0, 2), 1);
            due("at the other KNOT", x.sum(1, 0), -120 * 99);
            due("at the other KNOT", x.sum(1, 1), 120 * 99);
            due("at neither", x.sum(2, 0), 0);
            x = knots("", 3);
            x.line(0, 1, 1, 20, 3);
            x.line(2, 0, 4, 5, 60);
            x.line(1, 2, 7, 7, 7);
            int[][] due = {{-3, 15, -57}, {6, -13, 4}, {-3, -2, 53}};
            for (int knot = 0; knot < 3; knot++) {
                for (int part = 0; part < 3; part++) {
                    due("sum(" + knot + ", " + part + ")", x.sum(knot, part), due[knot][part]);
                }
            }
        });
        test("11", "SUM at a KNOT, part 0, 1, 2;", () -> {
            SlidingFlaws x = lines("", step(1, 2, 3), step(1, 0, 0), step(-1, 0, 0));
            x.meet(1, 2);
            for (int part = 0; part < 3; part++) {
                due("sum(0, " + part + ")", x.sum(0, part), part + 1);
                due("sum(1, " + part + ")", x.sum(1, part), -part - 1);
            }
            x.line(0, 1, -2, 0, 0);
            due("met", x.meet(0, 3), 1);
            due("one that is there alone", x.sum(0, 0), -1);
            due("at the other KNOT", x.sum(1, 0), 1);
        });
        test("11", "-100000 without these.", () -> {
            SlidingFlaws x = lines("", step(1, 2, 3));
            for (int bad : new int[] {-1, 2, 59, 60, MIN, MAX}) {
                due("sum(" + bad + ", 0)", x.sum(bad, 0), -100000);
            }
            for (int bad : new int[] {-1, 3, 4, MIN, MAX}) {
                due("sum(0, " + bad + ")", x.sum(0, bad), -100000);
            }
            due("no KNOTS", new SlidingFlaws().sum(0, 0), -100000);
        });
        test("II", "SOUND: all KNOTS inside have the SUM 0.", () -> {
            SlidingFlaws x = new SlidingFlaws();
            due("no KNOTS", x.unsound(), NONE);
            x.knot(false);
            due("no LINES", x.unsound(), NONE);
            x.knot(true);
            x.line(1, 0, 0, 0, 1);
            due("one part of one KNOT", x.unsound(), 0);
            x.line(0, 1, 0, 0, 1);
            due("0 again", x.unsound(), NONE);
            x.knot(true);
            x.line(1, 2, 5, 5, 5);
            due("at rims alone", x.unsound(), NONE);
        });
        test("12", "The first KNOT inside whose SUM is not 0;", () -> {
            for (int part = 0; part < 3; part++) {
                int[] s = {0, 0, 0};
                s[part] = part == 1 ? -1 : 1;
                SlidingFlaws x = new SlidingFlaws();
                x.knot(true);
                x.knot(false);
                x.knot(false);
                x.knot(false);
                x.line(0, 3, s[0], s[1], s[2]);
                due("the last", x.unsound(), 3);
                x.line(0, 2, s[0], s[1], s[2]);
                due("the first of two", x.unsound(), 2);
                x.line(2, 1, s[0], s[1], s[2]);
                due("the first of two, one is 0 again", x.unsound(), 1);
            }
        });
        test("12", "NONE: SOUND.", () -> {
            SlidingFlaws x = knots("", 60);
            for (int i = 0; i < 60; i++) {
                x.line(i, (i + 1) % 60, 99, -99, 1);
            }
            due("a ring of 60", x.unsound(), NONE);
            due("two sums of one part", x.sum(59, 0), 0);
            x.line(59, 0, 1, 0, 0);
            due("no more", x.unsound(), 0);
        });
        test("II", "WORTH of a STEP: the sum of its squares.", () -> {
            SlidingFlaws x = lines("", step(99, -99, 99), step(0, 0, -1), step(1, 2, -3));
            due("the greatest", x.lines(0, 5), 29403);
            due("the least", x.lines(1, 5), 1);
            due("another", x.lines(2, 5), 14);
        });
    }

    // ---- MEET

    private static void meeting() {
        test("II", "MEET: two LINES between the same two KNOTS (either way) become one, from and to the first one's,", () -> {
            for (int ways = 0; ways < 4; ways++) {
                SlidingFlaws x = knots("", 3);
                boolean first = ways % 2 == 0;
                boolean second = ways / 2 == 0;
                x.line(first ? 0 : 1, first ? 1 : 0, 3, 1, 0);
                int turn = first == second ? -1 : 1;
                x.line(second ? 0 : 1, second ? 1 : 0, turn * 2, 0, 0);
                due("meet", x.meet(0, 1), 1);
                line(x, 0, 1, 1, 0, first ? 0 : 1, first ? 1 : 0, 2);
                noLine(x, 1);
                due("count(4)", x.count(4), 1);
            }
            SlidingFlaws x = knots("", 3);
            x.line(0, 1, 1, 0, 0);
            x.line(0, 2, -1, 0, 0);
            x.line(2, 0, 1, 0, 0);
            x.line(2, 1, -1, 0, 0);
            x.line(1, 2, 1, 0, 0);
            for (int other = 1; other < 5; other++) {
                due("meet(0, " + other + ")", x.meet(0, other), NONE);
                due("meet(" + other + ", 0)", x.meet(other, 0), NONE);
            }
            due("count(4)", x.count(4), 5);
        });
        test("II", "with the sum of their STEPS (the second one's turned round, if it goes the other way),", () -> {
            SlidingFlaws x = knots("", 2);
            x.line(0, 1, 10, -20, 30);
            x.line(0, 1, -1, 2, -3);
            due("the same way", x.meet(0, 1), 1);
            line(x, 0, 9, -18, 27);
            x.line(1, 0, 4, -5, 6);
            due("the other way", x.meet(0, 2), 1);
            line(x, 0, 5, -13, 21, 0, 1);
            x.line(1, 0, 1, 1, 0);
            due("the other way, the other one first", x.meet(3, 0), 0);
            x.line(1, 0, -1, -1, -1);
            due("the other way, the other one first", x.meet(4, 0), 0);
            x.line(1, 0, 9, -9, 9);
            due("the other way, the other one first", x.meet(5, 0), 1);
            line(x, 5, 4, 4, -12, 1, 0);
        });
        test("II", "if its WORTH is less than theirs together:", () -> {
            SlidingFlaws x = lines("", step(1, 0, 0), step(0, 1, 0), step(1, 1, 0), step(-1, 0, 5));
            due("as much", x.meet(0, 1), 0);
            due("more", x.meet(0, 2), 0);
            due("nothing changed", x.count(4), 4);
            due("less by two", x.meet(2, 3), 1);
            line(x, 2, 0, 1, 5, 0, 1, 26);
            x = lines("", step(99, 99, 99), step(0, 0, -1));
            due("29403 and 1", x.meet(0, 1), 1);
            line(x, 0, 99, 99, 98);
            x = lines("", step(99, 0, 0), step(0, 99, 0), step(0, 0, 99));
            due("9801 and 9801", x.meet(0, 1), 0);
            due("9801 and 9801", x.meet(1, 2), 0);
        });
        test("II", "the first LINE has it then (if it is 0, that goes, too), the second one goes.", () -> {
            SlidingFlaws x = lines("", step(2, 0, 0), step(-1, 0, 0), step(-1, 0, 0), step(99, -99, 99), step(-99, 99, -99));
            due("meet(0, 1)", x.meet(0, 1), 1);
            line(x, 0, 1, 0, 0, 0, 1, 1);
            noLine(x, 1);
            due("it has gone", x.meet(0, 1), NONE);
            due("meet(2, 0)", x.meet(2, 0), 1);
            noLine(x, 0);
            noLine(x, 2);
            due("count(4)", x.count(4), 2);
            due("meet(3, 4)", x.meet(3, 4), 1);
            due("count(4)", x.count(4), 0);
            due("both have gone", x.meet(3, 4), NONE);
        });
        test("13", "MEET: 1 it is so; 0: it would not be worth less;", () -> {
            SlidingFlaws x = lines("", step(1, 0, 0), step(1, 0, 0), step(-1, 0, 0));
            due("not less", x.meet(0, 1), 0);
            due("less", x.meet(0, 2), 1);
        });
        test("13", "NONE: not such LINES, or both one;", () -> {
            SlidingFlaws x = lines("", step(1, 0, 0), step(-1, 0, 0), step(99, 0, 0), step(99, 0, 0));
            for (int bad : new int[] {-1, 4, 119, 120, MIN, MAX}) {
                due("meet(0, " + bad + ")", x.meet(0, bad), NONE);
                due("meet(" + bad + ", 0)", x.meet(bad, 0), NONE);
                due("meet(" + bad + ", " + bad + ")", x.meet(bad, bad), NONE);
            }
            due("both one", x.meet(0, 0), NONE);
            due("both one, its double beyond 99", x.meet(2, 2), NONE);
            due("count(4)", x.count(4), 4);
            x.meet(0, 1);
            due("gone", x.meet(0, 2), NONE);
            due("gone", x.meet(2, 1), NONE);
            due("both one, gone", x.meet(0, 0), NONE);
            // Beyond 99, but not between the same KNOTS.
            x.knot(false);
            x.line(0, 2, 99, 0, 0);
            due("not such LINES, and a part beyond 99", x.meet(2, 4), NONE);
        });
        test("13", "-2: a part of the sum is beyond -99 to 99 (0 and -2 change nothing; -2 first).", BoundsOfLines::beyond);
    }

    private static void beyond() {
        for (int part = 0; part < 3; part++) {
            for (int sign = -1; sign <= 1; sign += 2) {
                for (int turn = -1; turn <= 1; turn += 2) {
                    // Less together by what the other parts come to, so that -2 alone tells of the bound.
                    int[] a = {50, 50, 50};
                    int[] b = {-50 * turn, -50 * turn, -50 * turn};
                    a[part] = 60 * sign;
                    b[part] = 40 * sign * turn;
                    SlidingFlaws x = knots("", 2);
                    x.line(0, 1, a[0], a[1], a[2]);
                    x.line(turn > 0 ? 0 : 1, turn > 0 ? 1 : 0, b[0], b[1], b[2]);
                    due("to " + 100 * sign, x.meet(0, 1), -2);
                    line(x, 0, a[0], a[1], a[2], 0, 1);
                    line(x, 1, b[0], b[1], b[2]);
                    b[part] = 39 * sign * turn;
                    x.line(turn > 0 ? 0 : 1, turn > 0 ? 1 : 0, b[0], b[1], b[2]);
                    due("to " + 99 * sign, x.meet(0, 2), 1);
                    due("its part", x.lines(0, part), 99 * sign);
                    due("the next part", x.lines(0, (part + 1) % 3), 0);
                    due("count(4)", x.count(4), 2);
                }
            }
        }
        SlidingFlaws x = lines("", step(99, 0, 0), step(1, 0, 0), step(99, 99, 99), step(99, 99, 99), step(0, 1, 0));
        due("not worth less, and beyond 99", x.meet(0, 1), -2);
        due("to 198", x.meet(2, 3), -2);
        due("not worth less, at 99", x.meet(0, 4), 0);
        due("count(4)", x.count(4), 5);
        x.line(1, 0, -99, -99, -99);
        due("to 198, the other way", x.meet(2, 5), -2);
        x.line(1, 0, 99, 99, 99);
        due("to 0, the other way", x.meet(2, 6), 1);
        noLine(x, 2);
    }

    // ---- PART

    private static void parting() {
        test("II", "PART: a LINE parts into two of STEPS a and b of the TEXT (turned round or not), a + b its own,", () -> {
            String text = "step 3 1 0;step 1 3 0;step 9 9 9";
            for (int turns = 0; turns < 4; turns++) {
                int a = turns % 2 == 0 ? 1 : -1;
                int b = turns / 2 == 0 ? 1 : -1;
                SlidingFlaws x = lines(text, step(3 * a + b, a + 3 * b, 0));
                if (a == b) {
                    due("part", x.part(0, 0, a < 0), 1);
                    line(x, 0, 3 * a, a, 0);
                    line(x, 1, b, 3 * b, 0);
                    due("count(4)", x.count(4), 2);
                } else {
                    due("not worth less", x.part(0, 0, a < 0), -2);
                }
                due("the other way round what is left is none", x.part(0, 2, a > 0), -2);
            }
            // b is a STEP turned round; a is one turned round; both are.
            SlidingFlaws x = lines("step 2 1 0;step -1 -2 0", step(3, 3, 0));
            due("b turned", x.part(0, 0, false), 1);
            line(x, 0, 2, 1, 0);
            line(x, 1, 1, 2, 0);
            x = lines("step 2 1 0;step -1 -2 0", step(3, 3, 0));
            due("a turned", x.part(0, 1, true), 1);
            line(x, 0, 1, 2, 0);
            line(x, 1, 2, 1, 0);
            x = lines("step -2 -1 0;step -1 -2 0", step(3, 3, 0));
            due("both turned", x.part(0, 1, true), 1);
            line(x, 0, 1, 2, 0);
            line(x, 1, 2, 1, 0);
            x = lines("step 2 1 0;step -1 2 0;step 1 -2 0", step(3, 3, 0));
            due("turned in one part alone is none", x.part(0, 0, false), -2);
            x = lines("step 9 9 9", step(18, 18, 18), step(-18, -18, -18));
            due("a and b one STEP", x.part(0, 0, false), 2);
            line(x, 2, 9, 9, 9);
            due("a and b one STEP, turned", x.part(1, 0, true), 3);
            line(x, 3, -9, -9, -9);
        });
        test("II", "if their WORTHS together are less:", () -> {
            SlidingFlaws x = lines("step 1 1 0;step 1 -1 0;step 1 0 0;step 0 1 0", step(2, 0, 0), step(1, 1, 0), step(2, 1, 0));
            due("2 and 2 of 4", x.part(0, 0, false), -2);
            due("1 and 1 of 2", x.part(1, 2, false), -2);
            due("nothing changed", x.count(4), 3);
            due("1 and 2 of 5", x.part(2, 2, false), 3);
            line(x, 2, 1, 0, 0);
            line(x, 3, 1, 1, 0);
            x = lines("step 1 0 0", step(2, 0, 0));
            due("1 and 1 of 4", x.part(0, 0, false), 1);
            // Upright on one another: what they are worth is as much, whatever way b goes.
            for (int part = 0; part < 3; part++) {
                for (int sign = -1; sign <= 1; sign += 2) {
                    int[] a = {0, 0, 0};
                    int[] b = {0, 0, 0};
                    a[(part + 1) % 3] = 5;
                    b[part] = 3 * sign;
                    x = lines("step " + a[0] + " " + a[1] + " " + a[2] + ";step " + b[0] + " " + b[1] + " " + b[2],
                        step(a[0] + b[0], a[1] + b[1], a[2] + b[2]));
                    due("25 and 9 of 34", x.part(0, 0, false), -2);
                    due("9 and 25 of 34", x.part(0, 1, false), -2);
                    a[part] = sign;
                    x = lines("step " + a[0] + " " + a[1] + " " + a[2] + ";step " + b[0] + " " + b[1] + " " + b[2],
                        step(a[0] + b[0], a[1] + b[1], a[2] + b[2]));
                    due("26 and 9 of 41", x.part(0, 0, false), 1);
                }
            }
            x = lines("step 3 0 0;step -1 0 0", step(2, 0, 0));
            due("9 and 1 of 4", x.part(0, 0, false), -2);
        });
        test("II", "it has a then, a new LINE between the same KNOTS b.", () -> {
            SlidingFlaws x = knots("step 1 2 3;step 3 2 1", 3);
            x.line(2, 1, 4, 4, 4);
            due("part", x.part(0, 0, false), 1);
            line(x, 0, 1, 2, 3, 2, 1, 14);
            line(x, 1, 3, 2, 1, 2, 1, 14);
            due("sum", x.sum(2, 0), 4);
        });
        test("14", "PART by STEP number a of the TEXT, turned round or not: the new LINE;", () -> {
            SlidingFlaws x = lines(times(15, "step 1 0 0") + ";step 0 1 0", step(1, 2, 0), step(0, 2, 0), step(0, -2, 0));
            due("no STEP is left", x.part(0, 15, false), -2);
            due("the last STEP", x.part(1, 15, false), 3);
            due("turned", x.part(2, 15, true), 4);
            line(x, 4, 0, -1, 0);
            due("turned, where it should not be", x.part(0, 0, true), -2);
        });
        test("14", "-2: it would not be worth less, or what is left is no STEP of the TEXT (nor turned round);", () -> {
            SlidingFlaws x = lines("step 1 0 0;step 2 0 0;step 9 9 9", step(2, 0, 0), step(1, 0, 0), step(5, 0, 0), step(99, 99, 99));
            due("all of it", x.part(0, 1, false), -2);
            due("all of it", x.part(1, 0, false), -2);
            due("4 is left", x.part(2, 0, false), -2);
            due("3 is left", x.part(2, 1, false), -2);
            due("90 is left", x.part(3, 2, false), -2);
            due("108 is left", x.part(3, 2, true), -2);
            due("count(4)", x.count(4), 4);
            line(x, 0, 2, 0, 0);
            line(x, 3, 99, 99, 99);
        });
        test("14", "NONE: no such LINE or STEP, 120 LINES were told.", () -> {
            SlidingFlaws x = lines("step 1 0 0", step(2, 0, 0), step(5, 0, 0), step(-5, 0, 0));
            x.meet(1, 2);
            for (int bad : new int[] {-1, 1, 2, 3, 119, 120, MIN, MAX}) {
                due("part(" + bad + ", 0)", x.part(bad, 0, false), NONE);
            }
            for (int bad : new int[] {-1, 1, 15, 16, MIN, MAX}) {
                due("part(0, " + bad + ")", x.part(0, bad, false), NONE);
                due("part(0, " + bad + "), turned", x.part(0, bad, true), NONE);
            }
            line(x, 0, 2, 0, 0);
            for (int i = 3; i < 119; i++) {
                x.line(0, 1, 2, 0, 0);
            }
            due("one short of 120", x.part(0, 0, false), 119);
            due("120 were told", x.part(3, 0, false), NONE);
            line(x, 3, 2, 0, 0);
            due("count(4)", x.count(4), 118);
            noLine(x, 120);
            due("no STEP in a new TEXT", tell(x, "plane 1 0 0"), 1);
            due("part(3, 0)", x.part(3, 0, false), NONE);
        });
    }

    // ---- LEAST

    private static void leasts() {
        test("II", "LEAST: the least WORTH, together, that LINES at one KNOT (2 to 8 of them) can come to:", () -> {
            SlidingFlaws x = knots("", 2);
            for (int i = 0; i < 9; i++) {
                x.line(0, 1, 99, 99, 99);
            }
            due("one", x.least(0, 1), NONE);
            for (int many = 2; many <= 8; many++) {
                due(many + " LINES", x.least(0, (1L << many) - 1), many * 29403);
            }
            due("nine", x.least(0, 511), NONE);
            due("eight of nine", x.least(0, 510), 8 * 29403);
            x = knots("", 2);
            for (int i = 0; i < 8; i++) {
                x.line(i % 2, 1 - i % 2, 99, -99, 99);
            }
            due("eight that come to nothing", x.least(0, 255), 0);
            due("seven", x.least(0, 127), 29403);
            due("at the other KNOT", x.least(1, 127), 29403);
        });
        test("II", "all in groups, each group as one LINE with the sum of their STEPS as they go from the KNOT, which is 0, "
            + "or a STEP of the TEXT or one turned round, or a group of one LINE (whatever its STEP).", () -> {
            // A group of two: 0, a STEP, one turned round, none.
            SlidingFlaws x = lines("step 1 0 0;step -1 -1 0", step(5, 0, 0), step(-4, 0, 0), step(-6, 0, 0), step(-4, 1, 0),
                step(-5, 0, 0), step(-3, 0, 0), step(-6, 1, 0));
            due("a STEP", x.least(0, 1 | 2), 1);
            due("a STEP turned round", x.least(0, 1 | 4), 1);
            due("a STEP that is told turned round", x.least(0, 1 | 8), 2);
            due("0", x.least(0, 1 | 16), 0);
            due("none", x.least(0, 1 | 32), 25 + 9);
            due("none, turned in one part alone", x.least(0, 1 | 64), 25 + 37);
            due("at the other KNOT", x.least(1, 1 | 8), 2);
            // As they go from the KNOT: of two of one STEP, one of which goes to it.
            x = knots("step 2 0 0", 2);
            x.line(0, 1, 1, 0, 0);
            x.line(1, 0, 1, 0, 0);
            due("both ways", x.least(0, 3), 0);
            due("both ways, from the other KNOT", x.least(1, 3), 0);
            // Groups of all sizes.
            x = knots("step 1 0 0", 2);
            for (int i = 0; i < 7; i++) {
                x.line(0, 1, 5, 1, 0);
            }
            x.line(1, 0, 35, 7, 0);
            due("all eight", x.least(0, 255), 0);
            due("six and one", x.least(0, 63 | 128), 6 * 26 + 35 * 35 + 49);
            x.line(1, 0, 34, 7, 0);
            due("all eight as a STEP", x.least(0, 127 | 256), 1);
            x.line(1, 0, 33, 7, 0);
            due("all eight as none", x.least(0, 127 | 512), 7 * 26 + 33 * 33 + 49);
            // One that is a STEP, and dearer together.
            x = lines("step 2 0 0", step(1, 0, 0), step(1, 0, 0));
            due("apart is less", x.least(0, 3), 2);
            // STEPS of the TEXT as it is now.
            x = lines("step 1 0 0", step(3, 0, 0), step(-2, 0, 0));
            due("with the TEXT", x.least(0, 3), 1);
            tell(x, "step 2 0 0");
            due("with another", x.least(0, 3), 13);
            tell(x, "");
            due("with none", x.least(0, 3), 13);
        });
        test("15", "LEAST of LINES at a KNOT (bits 0 to 59: LINES 0 to 59): the WORTH;", () -> {
            SlidingFlaws x = knots("", 2);
            for (int i = 0; i < 70; i++) {
                x.line(0, 1, i + 1, 0, 0);
            }
            due("LINES 0 and 59", x.least(0, 1L | 1L << 59), 1 + 3600);
            due("LINES 52 to 59", x.least(0, 255L << 52), 53 * 53 + 54 * 54 + 55 * 55 + 56 * 56 + 57 * 57 + 58 * 58 + 59 * 59 + 3600);
            due("LINES 31, 32", x.least(0, 3L << 31), 32 * 32 + 33 * 33);
            due("LINES 30, 31", x.least(0, 3L << 30), 31 * 31 + 32 * 32);
            due("LINES 7, 40", x.least(0, 1L << 7 | 1L << 40), 64 + 41 * 41);
            // LINES 60 to 69 are there, and at that KNOT, but no bit tells them.
            for (int bit = 60; bit < 64; bit++) {
                due("bit " + bit, x.least(0, 1L << bit | 3), NONE);
                due("bit " + bit + " and bit 59", x.least(0, 1L << bit | 1L << 59), NONE);
                due("bit " + bit + " and one", x.least(0, 1L << bit | 1), NONE);
            }
        });
        test("15", "NONE: none such KNOT, fewer than 2 or more than 8 LINES, or one that is not there or not at that KNOT.", () -> {
            SlidingFlaws x = knots("", 4);
            for (int i = 0; i < 12; i++) {
                x.line(0, 1, 1, 2, 3);
            }
            x.line(1, 2, 1, 0, 0);
            x.line(2, 1, 1, 0, 0);
            for (int bad : new int[] {-1, 4, 59, 60, MIN, MAX}) {
                due("least(" + bad + ", 3)", x.least(bad, 3), NONE);
            }
            due("at a KNOT without LINES", x.least(3, 3), NONE);
            due("no LINE", x.least(0, 0), NONE);
            for (int bit = 0; bit < 64; bit++) {
                due("LINE " + bit + " alone", x.least(0, 1L << bit), NONE);
                boolean here = bit < 12;
                due("LINE " + bit + " with another", x.least(0, 1L << bit | (bit == 0 ? 2 : 1)), here ? 28 : NONE);
                due("LINE " + bit + " with seven", x.least(0, 1L << bit | (bit < 8 ? 255 ^ 1 << bit : 127)), here ? 8 * 14 : NONE);
                due("LINE " + bit + " with eight", x.least(0, 1L << bit | (bit < 8 ? 511 ^ 1 << bit : 255)), NONE);
            }
            due("at KNOT 1 all are", x.least(1, 3 | 1 << 12), 29);
            due("at KNOT 2 two are", x.least(2, 3L << 12), 0);
            due("at KNOT 2 one is not", x.least(2, 7L << 11), NONE);
            due("the least long", x.least(0, Long.MIN_VALUE), NONE);
            due("the greatest long", x.least(0, Long.MAX_VALUE), NONE);
            due("-1", x.least(0, -1), NONE);
            due("-2", x.least(0, -2), NONE);
            x.meet(12, 13);
            due("one that has gone", x.least(1, 3 | 1 << 12), NONE);
            due("the others", x.least(1, 3), 28);
        });
    }

    private static void names(SlidingFlaws x, int... names) {
        for (int i = 0; i < names.length; i++) {
            due("group(" + i + ")", x.group(i), names[i]);
        }
        for (int bad : new int[] {-1, names.length, names.length + 1, 8, MIN, MAX}) {
            due("group(" + bad + ")", x.group(bad), NONE);
        }
    }

    private static void groups() {
        test("II", "Of several the groups of which the one with the first LINE is told by the least set "
            + "(bit i the i-th told LINE), then that with the first LINE of those left, and so on.", () -> {
            // a, -a, a, -a: the first with the second (3) is less than with the fourth (9), or with all (15).
            SlidingFlaws x = lines("step 1 0 0", step(1, 0, 0), step(-1, 0, 0), step(1, 0, 0), step(-1, 0, 0));
            due("least", x.least(0, 15), 0);
            names(x, 0, 0, 1, 1);
            // Alone (1) is less than with another one, where that comes to as much.
            x = lines("step 1 1 0", step(1, 0, 0), step(0, 1, 0), step(0, 1, 0), step(1, 0, 0));
            due("least", x.least(0, 3), 2);
            names(x, 0, 1);
            due("least", x.least(0, 15), 4);
            names(x, 0, 1, 2, 3);
            // The first must be with another one: of two that do, the one told first.
            x = lines("step 1 0 0", step(3, 0, 0), step(-3, 1, 0), step(-3, 0, 0), step(-3, 0, 0), step(0, 0, 1));
            due("least", x.least(0, 31), 10 + 9 + 1);
            names(x, 0, 1, 0, 2, 3);
            // The first pair is bound to be; of those left the third has the choice of two.
            x = lines("step 1 0 0", step(7, 0, 0), step(-7, 0, 0), step(5, 0, 0), step(-5, 0, 0), step(-5, 0, 0), step(5, 0, 0));
            due("least", x.least(0, 63), 0);
            names(x, 0, 0, 1, 1, 2, 2);
            // The pairs are least although the first LINE's set is greater: the WORTH is first.
            x = lines("step 1 0 0;step 2 0 1", step(5, 0, 0), step(-3, 0, 1), step(-4, 0, 0));
            due("1 and 10, not 5 and 16", x.least(0, 7), 11);
            names(x, 0, 1, 0);
            // A set of three is less than one with a later LINE: {0, 1, 2} is 7, {0, 3} is 9.
            x = lines("", step(2, 0, 0), step(-1, 0, 0), step(-1, 0, 0), step(-2, 0, 0), step(1, 0, 0), step(1, 0, 0));
            due("least", x.least(0, 63), 0);
            names(x, 0, 0, 0, 1, 1, 1);
            // {0, 2} is 5, {0, 1, 3} is 11.
            x = lines("", step(2, 0, 0), step(-1, 0, 0), step(-2, 0, 0), step(-1, 0, 0), step(2, 0, 0));
            due("least", x.least(0, 31), 0);
            names(x, 0, 1, 0, 1, 1);
        });
        test("16", "Of the latest least() that was not NONE the group (0, 1, .., by their first LINE) of the i-th LINE told;", () -> {
            SlidingFlaws x = lines("", step(1, 0, 0), step(0, 1, 0), step(-1, 0, 0), step(0, -1, 0), step(0, 0, 1));
            due("least", x.least(0, 31), 1);
            names(x, 0, 1, 0, 1, 2);
            long[] refused = {0, 1, 33, 1L << 60 | 3, -1, Long.MIN_VALUE, Long.MAX_VALUE};
            for (long set : refused) {
                due("refused", x.least(0, set), NONE);
                names(x, 0, 1, 0, 1, 2);
            }
            due("refused", x.least(2, 3), NONE);
            names(x, 0, 1, 0, 1, 2);
            due("the third to fifth", x.least(0, 28), 3);
            names(x, 0, 1, 2);
            due("from the second on", x.least(0, 26), 1);
            names(x, 0, 0, 1);
            // What becomes of the LINES and the TEXT is of no matter.
            x.meet(0, 2);
            tell(x, "step 1 1 1");
            names(x, 0, 0, 1);
            x = lines("", step(1, 0, 0), step(2, 0, 0), step(3, 0, 0), step(4, 0, 0), step(5, 0, 0), step(7, 0, 0), step(9, 0, 0),
                step(11, 0, 0));
            due("eight", x.least(0, 255), 1 + 4 + 9 + 16 + 25 + 49 + 81 + 121);
            names(x, 0, 1, 2, 3, 4, 5, 6, 7);
        });
        test("16", "NONE.", () -> {
            SlidingFlaws x = lines("", step(1, 0, 0), step(2, 0, 0));
            names(x);
            due("refused", x.least(0, 1), NONE);
            names(x);
            due("two", x.least(0, 3), 5);
            names(x, 0, 1);
        });
    }

    // ---- SHARE, SLIDE, FIRST

    private static void share(SlidingFlaws x, int[] t, int plane, int step, long above, long below) {
        due("above", x.share(t[0], t[1], t[2], plane, step, 0), above);
        due("below", x.share(t[0], t[1], t[2], plane, step, 1), below);
    }

    private static void shares() {
        test("II", "SHARE of a pull along (x, y, z) (-9 to 9 each, not all 0) on PLANE n and STEP b with n * b = 0 "
            + "(products of the parts, added up): s = (t * n) * (t * b);", () -> {
            SlidingFlaws x = of("plane 0 0 1;plane 0 1 0;plane 1 0 0;plane 1 1 1;step 1 0 0;step 0 1 0;step 0 0 1;step 1 1 -2;step 1 1 -1");
            for (int part = 0; part < 3; part++) {
                for (int value : new int[] {-9, 9, -1, 1}) {
                    int[] t = {0, 0, 0};
                    t[part] = value;
                    due("one part of " + value, x.share(t[0], t[1], t[2], 0, 0, 1), 1);
                    t = new int[] {1, 1, 1};
                    t[part] = value;
                    // s is x times z; 81 and 83 * 83 have nothing in common.
                    long along = 2 + value * value;
                    share(x, t, 0, 0, part == 1 ? 1 : value * value, along * along);
                }
                for (int value : new int[] {-10, 10, MIN, MAX}) {
                    int[] t = {1, 1, 1};
                    t[part] = value;
                    share(x, t, 0, 0, -1, -1);
                }
            }
            share(x, step(0, 0, 0), 0, 0, -1, -1);
            share(x, step(1, 2, 2), 0, 0, 4, 81);
            share(x, step(1, 2, 2), 0, 1, 16, 81);
            share(x, step(1, 2, 2), 1, 2, 16, 81);
            share(x, step(1, 2, 2), 2, 1, 4, 81);
            // (1, 1, -2) is in (1, 1, 1); (1, 1, -1) is not, by one.
            share(x, step(1, 0, 0), 3, 3, 1, 18);
            share(x, step(1, 0, 0), 3, 4, -1, -1);
            share(x, step(1, 0, 0), 0, 2, -1, -1);
        });
        test("II", "its square by the squares (t * t) * (t * t) * (n * n) * (b * b), in lowest terms (0: 0 by 1).",
            BoundsOfLines::lowestTerms);
        test("17", "SHARE's square, part 0 above the line, 1 below it;", () -> {
            SlidingFlaws x = of("plane 0 0 1;step 1 0 0");
            due("part 0", x.share(2, 0, 1, 0, 0, 0), 4);
            due("part 1", x.share(2, 0, 1, 0, 0, 1), 25);
        });
        test("17", "-1 without these (no such PLANE, STEP, pull, or the STEP is not in the PLANE).", () -> {
            SlidingFlaws x = of("plane 0 0 1;plane 1 0 0;step 1 0 0;step 0 1 0;step 0 0 1");
            for (int bad : new int[] {-1, 2, 15, 16, MIN, MAX}) {
                due("plane " + bad, x.share(1, 0, 1, bad, 0, 0), -1);
                due("part " + bad, x.share(1, 0, 1, 0, 0, bad), -1);
            }
            for (int bad : new int[] {-1, 3, 15, 16, MIN, MAX}) {
                due("step " + bad, x.share(1, 0, 1, 0, bad, 0), -1);
            }
            due("not in the PLANE", x.share(1, 0, 1, 1, 0, 1), -1);
            due("not in the PLANE", x.share(1, 0, 1, 0, 2, 0), -1);
            due("no pull", x.share(0, 0, 0, 0, 0, 1), -1);
            due("all of these", x.share(1, 0, 1, 0, 0, 0), 1);
            due("all of these", x.share(1, 0, 1, 1, 1, 1), 1);
            due("no TEXT", new SlidingFlaws().share(1, 0, 1, 0, 0, 0), -1);
        });
        test("II", "A pull of P (0 to 9999) makes it SLIDE against a HOLD h (0 to 9999), if P times the SHARE is above h.",
            BoundsOfLines::sliding);
        test("18", "1 if a pull makes it SLIDE against a HOLD, 0 if not;", () -> {
            SlidingFlaws x = of("plane 0 0 1;step 1 0 0");
            due("4.5 against 4", x.slides(1, 0, 1, 0, 0, 9, 4), 1);
            due("4.5 against 5", x.slides(1, 0, 1, 0, 0, 9, 5), 0);
        });
        test("18", "NONE without these.", () -> {
            SlidingFlaws x = of("plane 0 0 1;step 1 0 0;step 0 0 1");
            for (int bad : new int[] {-10, 10, MIN, MAX}) {
                due("x " + bad, x.slides(bad, 0, 1, 0, 0, 1, 0), NONE);
                due("y " + bad, x.slides(1, bad, 1, 0, 0, 1, 0), NONE);
                due("z " + bad, x.slides(1, 0, bad, 0, 0, 1, 0), NONE);
            }
            due("no pull", x.slides(0, 0, 0, 0, 0, 1, 0), NONE);
            for (int bad : new int[] {-1, 1, 16, MIN, MAX}) {
                due("plane " + bad, x.slides(1, 0, 1, bad, 0, 1, 0), NONE);
            }
            for (int bad : new int[] {-1, 2, 16, MIN, MAX}) {
                due("step " + bad, x.slides(1, 0, 1, 0, bad, 1, 0), NONE);
            }
            due("not in the PLANE", x.slides(1, 0, 1, 0, 1, 1, 0), NONE);
            for (int bad : new int[] {-1, 10000, -9999, MIN, MAX}) {
                due("p " + bad, x.slides(1, 0, 1, 0, 0, bad, 0), NONE);
                due("h " + bad, x.slides(1, 0, 1, 0, 0, 1, bad), NONE);
            }
            due("all of these", x.slides(9, -9, 9, 0, 0, 9999, 9999), 0);
            due("all of these", x.slides(9, -9, 9, 0, 0, 9999, 0), 1);
        });
    }

    private static void lowestTerms() {
        SlidingFlaws x = of("plane 9 9 9;plane 0 0 9;plane 9 8 7;step 9 -9 0;step 9 9 0;step 7 -7 -1;step -9 9 0;step -1 2 -1");
        // (81 * 162) by (243 * 243 * 243 * 162), both squared above: 2 by 27.
        share(x, step(9, -9, 9), 0, 0, 2, 27);
        share(x, step(9, -9, 9), 0, 3, 2, 27);
        share(x, step(9, 9, 9), 0, 0, 0, 1);
        share(x, step(1, 0, 0), 1, 1, 0, 1);
        share(x, step(9, 9, 0), 1, 1, 0, 1);
        SlidingFlaws y = of("plane 0 0 9;step 9 0 0");
        share(y, step(9, 0, 9), 0, 0, 1, 4);
        share(y, step(-1, 0, 1), 0, 0, 1, 4);
        share(y, step(9, 0, 8), 0, 0, 5184, 21025);
        share(y, step(9, 9, 1), 0, 0, 81, 26569);
        // What can't be made less.
        SlidingFlaws z = of("plane 8 0 -9;step -9 9 -8;plane 2 9 -9;step -9 -6 -8");
        share(z, step(-9, -8, -9), 0, 0, 531441, 1673760520);
        share(z, step(-9, 8, -9), 1, 1, 200930625, 1534629496);
        share(z, step(9, -8, 9), 1, 1, 200930625, 1534629496);
    }

    private static void sliding() {
        SlidingFlaws x = of("plane 0 0 1;step 1 0 0;step 0 1 0");
        // The SHARE is a half.
        int[][] due = {{0, 0, 0}, {1, 0, 1}, {2, 1, 0}, {3, 1, 1}, {10, 5, 0}, {10, 4, 1}, {11, 5, 1}, {9998, 4999, 0}, {9999, 4999, 1},
            {9999, 5000, 0}, {9999, 9999, 0}, {0, 9999, 0}};
        for (int[] d : due) {
            due("slides() by " + d[0] + " against " + d[1], x.slides(1, 0, 1, 0, 0, d[0], d[1]), d[2]);
            due("slides() by " + d[0] + " against " + d[1], x.slides(-9, 0, 9, 0, 0, d[0], d[1]), d[2]);
        }
        due("no SHARE", x.slides(1, 0, 0, 0, 0, 9999, 0), 0);
        due("no SHARE", x.slides(1, 0, 1, 0, 1, 9999, 0), 0);
        // The SHARE is 1 by the root of 8.
        SlidingFlaws y = of("plane 0 0 1;step 1 1 0");
        due("9999 by the root of 8", y.slides(0, 1, 1, 0, 0, 9999, 3535), 1);
        due("9999 by the root of 8", y.slides(0, 1, 1, 0, 0, 9999, 3536), 0);
        due("3 by the root of 8", y.slides(0, 1, 1, 0, 0, 3, 1), 1);
        due("3 by the root of 8", y.slides(0, 1, 1, 0, 0, 3, 2), 0);
        due("2 by the root of 8", y.slides(0, 1, 1, 0, 0, 2, 0), 1);
        due("2 by the root of 8", y.slides(0, 1, 1, 0, 0, 2, 1), 0);
    }

    private static void firsts() {
        test("II", "FIRST: of all PLANES and STEPS so the greatest SHARE; all that have it.", () -> {
            SlidingFlaws x = of("plane 0 0 1;plane 0 1 0;plane 1 1 1;step 1 0 0;step 0 0 1;step 1 -1 0;step 0 1 0");
            // Along (1, 0, 1): (0, 0, 1) with (1, 0, 0) and (0, 1, 0) none; a half is the greatest there is.
            due("how many", x.first(1, 0, 1, NONE), 1);
            due("which", x.first(1, 0, 1, 0), 0);
            // Along (1, 1, 1): no STEP in the third PLANE has a share, all others in the first two are alike.
            due("how many", x.first(1, 1, 1, NONE), 4);
            int[] all = {0, 3, 16, 17};
            for (int k = 0; k < 4; k++) {
                due("k " + k, x.first(1, 1, 1, k), all[k]);
            }
            due("behind the last", x.first(1, 1, 1, 4), NONE);
            // Of 1 by 4 and 1 by 5 the first alone, wherever it stands.
            x = of("plane 0 0 1;plane 1 0 0;step 1 0 0;step 0 1 2");
            due("1 by 4, then 1 by 5", x.first(1, 0, 1, NONE), 1);
            due("1 by 4", x.first(1, 0, 1, 0), 0);
            x = of("plane 1 0 0;plane 0 0 1;step 0 1 2;step 0 1 2;step 1 0 0");
            due("1 by 5 twice, then 1 by 4", x.first(1, 0, 1, NONE), 1);
            due("1 by 4", x.first(1, 0, 1, 0), 16 + 2);
            due("no other one", x.first(1, 0, 1, 1), NONE);
            // A greater one behind, and one as great that is told in other terms.
            x = of("plane 0 0 1;plane 0 0 2;step 1 1 0;step 9 0 0;step -3 0 0");
            due("how many", x.first(1, 0, 1, NONE), 4);
            int[] next = {1, 2, 17, 18};
            for (int k = 0; k < 4; k++) {
                due("k " + k, x.first(1, 0, 1, k), next[k]);
            }
        });
        test("19", "FIRST: how many PLANES and STEPS have the greatest SHARE (k NONE; 0: none is above 0),", () -> {
            SlidingFlaws x = of("plane 0 0 1;step 1 0 0;step 0 1 0");
            due("along (1, 0, 1)", x.first(1, 0, 1, NONE), 1);
            due("along (1, 1, 1)", x.first(1, 1, 1, NONE), 2);
            due("along (1, 0, 0)", x.first(1, 0, 0, NONE), 0);
            due("along (0, 0, 1)", x.first(0, 0, 1, NONE), 0);
            due("no first then", x.first(1, 0, 0, 0), NONE);
            due("no STEP in a PLANE", of("plane 1 0 0;step 1 0 0").first(1, 0, 0, NONE), 0);
            due("no PLANE", of("step 1 0 0").first(1, 0, 0, NONE), 0);
            due("no STEP", of("plane 1 0 0").first(1, 0, 0, NONE), 0);
            due("all of 16 by 16", full().first(9, 0, -9, NONE), 256);
        });
        test("19", "or the k-th, by PLANES, then STEPS: 16 * PLANE + STEP;", () -> {
            SlidingFlaws x = full();
            for (int k : new int[] {0, 1, 15, 16, 17, 31, 32, 254, 255}) {
                due("first(" + k + ")", x.first(1, 0, 1, k), k);
            }
            due("first(256)", x.first(1, 0, 1, 256), NONE);
        });
        test("19", "NONE without it.", () -> {
            SlidingFlaws x = of("plane 0 0 1;step 1 0 0");
            for (int bad : new int[] {1, -2, -3, 256, MIN, MAX}) {
                due("first(" + bad + ")", x.first(1, 0, 1, bad), NONE);
            }
            for (int bad : new int[] {-10, 10, MIN, MAX}) {
                for (int k = -1; k <= 0; k++) {
                    due("x " + bad, x.first(bad, 0, 1, k), NONE);
                    due("y " + bad, x.first(1, bad, 1, k), NONE);
                    due("z " + bad, x.first(1, 0, bad, k), NONE);
                }
            }
            due("no pull", x.first(0, 0, 0, NONE), NONE);
            due("no pull", x.first(0, 0, 0, 0), NONE);
            due("with these", x.first(-9, 9, 9, 0), 0);
        });
    }

    private static SlidingFlaws full() {
        return of(times(16, "step 1 0 0") + ";" + times(16, "plane 0 0 1"));
    }
}
