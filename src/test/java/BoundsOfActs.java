/** Each sentence of parts VI and VII and of promises 50 to 55. */
final class BoundsOfActs extends Bounds {
    static void all() {
        acts();
        undoing();
        cracks();
        counting();
    }

    /** The row where flaws are put and come, and what is counted of it: few enough calls to look often. */
    private static String look(SlidingFlaws x) {
        StringBuilder all = new StringBuilder();
        for (int place = 8; place < 100; place = place == 16 ? 46 : place == 54 ? 96 : place + 1) {
            all.append(x.at(place)).append(' ');
        }
        for (int what = 5; what <= 10; what++) {
            all.append(' ').append(x.count(what));
        }
        return all.toString();
    }

    private static void acts() {
        test("VI", "UNDONE: acts on THE ROW (not on THE GRAIN) that were not refused: put(), clear(), back(), run() "
            + "(also one of no TICKS):", () -> {
            SlidingFlaws x = of("base 0 0;step 1 0 0;plane 0 0 1;eye 1 0 0;push 1 5");
            due("none yet", x.count(14), 0);
            due("put()", x.put(10, 1), true);
            due("acts", x.count(14), 1);
            due("clear()", x.clear(), 1);
            due("acts", x.count(14), 2);
            due("clear() of an empty ROW", x.clear(), 0);
            due("acts", x.count(14), 3);
            due("back()", x.back(), 0);
            due("acts", x.count(14), 4);
            due("run()", x.run(5, 3, 0), 0);
            due("acts", x.count(14), 5);
            due("run() of no TICKS", x.run(5, 0, 0), 0);
            due("acts", x.count(14), 6);
            // What is refused, and what is no act.
            x.put(10, 0);
            x.put(-1, 1);
            x.run(5, 201, 0);
            x.run(10000, 5, 0);
            x.run(5, 5, 2);
            x.mark();
            x.sure(5, 5);
            x.aim(1, 5, 0, 0, 0, 1, 1);
            x.fit(1, 1, 0, 0, 1, 5, 5);
            x.shield(0);
            x.crack(0, 0, 0, 0);
            x.runsTo(0, 0, 0, 0);
            x.feels(10, 0);
            x.at(10);
            tell(x, "step 1 0 0;plane 0 0 1;eye 1 0 0;base 0 0");
            x.system(0, 0);
            x.harder(1, 1);
            x.fill(0, 5, 1);
            x.load(1, 0, 1, 10, 2, 0);
            x.curve(1, 0, 1, 10, 0, 1, 1);
            x.sight(0, true);
            x.forget();
            x.knot(true);
            x.knot(true);
            x.line(0, 1, 1, 0, 0);
            due("acts", x.count(14), 6);
            due("put()", x.put(10, 1), true);
            due("undo()", x.undo(), true);
            due("THE GRAIN stays", x.systems(0, 108), 1);
            due("GONE stays", x.systems(0, 2), 3);
            due("six more", x.count(14), 6);
        });
        test("VI", "the ROW and all that is counted of it are as ahead of the latest one that is not undone;", () -> {
            SlidingFlaws x = of("source 50 0;base 0 0");
            String[] looks = new String[9];
            looks[0] = look(x);
            x.put(98, 1);
            x.put(10, 1);
            x.put(12, -1);
            looks[1] = look(x);
            x.run(5, 3, 0);
            looks[2] = look(x);
            x.run(-7, 4, 0);
            looks[3] = look(x);
            due("the second run changed it", looks[3].equals(looks[2]), false);
            due("undo()", x.undo(), true);
            same("ahead of the second run", look(x), looks[2]);
            due("undo()", x.undo(), true);
            same("ahead of the first one", look(x), looks[1]);
            x.clear();
            due("undo()", x.undo(), true);
            same("ahead of clear()", look(x), looks[1]);
            due("undo() of a put()", x.undo(), true);
            due("at(12)", x.at(12), 0);
            due("count(5)", x.count(5), 2);
        });
        test("VI", "50 at most are kept (the oldest goes).", () -> {
            for (int acts : new int[] {49, 50, 51, 52, 99, 100, 101, 120}) {
                SlidingFlaws x = of("base 0 0");
                for (int i = 0; i < acts; i++) {
                    if (i % 100 < 30) {
                        x.put(i % 100, 1);
                    } else {
                        x.run(i, 0, 0);
                    }
                    if (i % 100 == 29) {
                        x.clear();
                        i++;
                    }
                }
                int kept = Math.min(acts, 50);
                due("acts of " + acts, x.count(14), kept);
                for (int i = 0; i < kept; i++) {
                    due("undo()", x.undo(), true);
                    due("acts left", x.count(14), kept - i - 1);
                }
                due("undo() of one that went", x.undo(), false);
                due("acts left", x.count(14), 0);
            }
            // What is left behind fifty undoings is the row ahead of the oldest one kept.
            for (int acts = 49; acts <= 52; acts++) {
                SlidingFlaws x = of("base 0 0");
                put(x, "0+");
                for (int i = 1; i < acts; i++) {
                    x.run(1, 1, 0);
                }
                while (x.undo()) {
                    due("flaws or none", x.count(5) <= 1, true);
                }
                same("behind all undoings of " + acts, row(x), acts <= 50 ? "" : acts - 51 + "+");
                due("slipped", x.count(6), Math.max(0, acts - 51));
                for (int i = 0; i < Math.min(50, acts); i++) {
                    due("redo()", x.redo(), true);
                }
                due("no more", x.redo(), false);
                same("behind all of " + acts, row(x), acts - 1 + "+");
                due("slipped", x.count(6), acts - 1);
            }
        });
        test("VI", "REDONE: as behind it;", () -> {
            SlidingFlaws x = of("source 50 0;base 0 0");
            String[] looks = new String[4];
            put(x, "98+ 10+ 12-");
            looks[0] = look(x);
            x.run(5, 3, 0);
            looks[1] = look(x);
            x.run(-7, 4, 0);
            looks[2] = look(x);
            x.clear();
            looks[3] = look(x);
            for (int turn = 0; turn < 2; turn++) {
                for (int i = 0; i < 3; i++) {
                    due("undo()", x.undo(), true);
                }
                for (int i = 1; i <= 3; i++) {
                    due("redo()", x.redo(), true);
                    if (turn == 0) {
                        same("behind act " + i, look(x), looks[i]);
                    }
                }
            }
            due("no more", x.redo(), false);
        });
        test("VI", "an act behind an undoing drops what could be redone.", () -> {
            String[] acts = {"put", "clear", "back", "run", "run of no TICKS"};
            for (int act = 0; act < acts.length; act++) {
                SlidingFlaws x = of("base 0 0");
                put(x, "10+ 20+ 30+");
                x.undo();
                x.undo();
                switch (act) {
                    case 0: x.put(50, 1); break;
                    case 1: x.clear(); break;
                    case 2: x.back(); break;
                    case 3: x.run(5, 1, 0); break;
                    default: x.run(5, 0, 0); break;
                }
                due("redo() behind " + acts[act], x.redo(), false);
                due("acts", x.count(14), 2);
                due("undo()", x.undo(), true);
                same("ahead of it", row(x), "10+");
                due("redo() of it", x.redo(), true);
                due("no more", x.redo(), false);
                due("acts", x.count(14), 2);
            }
            // What is refused, and what is no act, drops nothing.
            SlidingFlaws x = of("base 0 0;step 1 0 0;plane 0 0 1");
            put(x, "10+ 20+");
            x.undo();
            x.put(10, 1);
            x.put(100, 1);
            x.run(5, 201, 0);
            x.mark();
            x.sure(5, 5);
            x.aim(1, 5, 0, 0, 0, 1, 1);
            x.fit(1, 1, 0, 0, 1, 5, 5);
            x.system(0, 0);
            x.fill(0, 5, 1);
            x.load(1, 0, 1, 10, 2, 0);
            tell(x, "");
            due("redo()", x.redo(), true);
            same("the row", row(x), "10+ 20+");
            // Fifty are kept, one is undone, and another comes: fifty again.
            x = of("base 0 0");
            for (int i = 0; i < 55; i++) {
                x.run(1, 0, 0);
            }
            x.undo();
            due("acts", x.count(14), 49);
            x.put(7, 1);
            due("acts", x.count(14), 50);
            x.put(8, 1);
            due("acts", x.count(14), 50);
            x.undo();
            x.undo();
            same("ahead of both", row(x), "");
            due("redo()", x.redo(), true);
            same("behind the first", row(x), "7+");
        });
        test("VI", "The mark stays as it is.", () -> {
            SlidingFlaws x = of("base 0 0");
            put(x, "10+");
            x.mark();
            put(x, "20+");
            x.undo();
            x.undo();
            same("undone", row(x), "");
            due("back()", x.back(), 1);
            same("the mark", row(x), "10+");
            x.undo();
            x.redo();
            same("redone", row(x), "10+");
            x.clear();
            x.mark();
            x.undo();
            x.undo();
            x.redo();
            same("redone", row(x), "10+");
            due("a mark made behind the act that is undone", x.back(), 0);
        });
    }

    private static void undoing() {
        test("50", "UNDONE: true;", () -> {
            SlidingFlaws x = of("base 0 0");
            x.put(10, 1);
            due("undo()", x.undo(), true);
            due("at(10)", x.at(10), 0);
            x.put(10, 1);
            x.mark();
            x.clear();
            due("undo() of clear()", x.undo(), true);
            due("at(10)", x.at(10), 1);
            x.run(5, 2, 0);
            x.back();
            due("undo() of back()", x.undo(), true);
            due("at(12)", x.at(12), 1);
            due("undo() of run()", x.undo(), true);
            due("at(10)", x.at(10), 1);
            due("slipped", x.count(6), 0);
            due("work", x.count(7), 0);
        });
        test("50", "false: nothing to be undone.", () -> {
            SlidingFlaws x = new SlidingFlaws();
            due("undo()", x.undo(), false);
            x.put(100, 1);
            x.put(5, 0);
            x.run(5, -1, 0);
            x.mark();
            due("undo()", x.undo(), false);
            x.put(5, 1);
            due("undo()", x.undo(), true);
            due("undo()", x.undo(), false);
            due("undo()", x.undo(), false);
            same("the row", row(x), "");
            due("redo()", x.redo(), true);
            same("the row", row(x), "5+");
        });
        test("51", "REDONE: true;", () -> {
            SlidingFlaws x = of("base 0 0");
            put(x, "10+ 98+");
            x.run(5, 2, 0);
            x.undo();
            due("redo()", x.redo(), true);
            same("the row", row(x), "12+");
            counts(x, 1, 4, 20, 1, 0, 0);
            due("undo()", x.undo(), true);
            due("redo()", x.redo(), true);
            due("acts", x.count(14), 3);
        });
        test("51", "false: nothing to be redone.", () -> {
            SlidingFlaws x = new SlidingFlaws();
            due("redo()", x.redo(), false);
            x.put(5, 1);
            due("redo()", x.redo(), false);
            x.undo();
            due("redo()", x.redo(), true);
            due("redo()", x.redo(), false);
            same("the row", row(x), "5+");
            due("acts", x.count(14), 1);
            // Fifty undone, fifty redone.
            for (int i = 0; i < 60; i++) {
                x.run(1, 0, 0);
            }
            int undone = 0;
            while (undone < 100 && x.undo()) {
                undone++;
            }
            due("undone", undone, 50);
            int redone = 0;
            while (redone < 100 && x.redo()) {
                redone++;
            }
            due("redone", redone, 50);
        });
    }

    // ---- CRACKS

    private static String allPushes(int value) {
        StringBuilder all = new StringBuilder();
        for (int d = 1; d <= 20; d++) {
            all.append(d > 1 ? ";" : "").append("push ").append(d).append(' ').append(value);
        }
        return all.toString();
    }

    private static void cracks() {
        test("VII", "A CRACK in THE ROW goes from place 0 to its END, the place told as its length (0 to 60).", () -> {
            SlidingFlaws x = of(allPushes(7));
            put(x, "1+ 61-");
            due("of length 0 the END is place 0", x.shield(0), 7);
            due("of length 1 the END is place 1", x.shield(1), 0);
            due("of length 60 the END is place 60", x.shield(60), -7);
            for (int bad : new int[] {-1, 61, 62, 99, 100, MIN, MAX}) {
                due("shield(" + bad + ")", x.shield(bad), -1000000000);
                due("crack(" + bad + ")", x.crack(bad, 0, 0, 0), NONE);
                due("runsTo(" + bad + ")", x.runsTo(bad, 0, 0, 0), NONE);
            }
        });
        test("VII", "SHIELD: the sum over flaws to the right of its END, 20 away at most, of sign times PUSH at their distance from it "
            + "(others count nothing).", () -> {
            for (int d = 0; d <= 22; d++) {
                SlidingFlaws x = of(allPushes(7));
                x.put(40 + d, 1);
                due("+ " + d + " away", x.shield(40), d >= 1 && d <= 20 ? 7 : 0);
                x = of(allPushes(7));
                x.put(40 + d, -1);
                due("- " + d + " away", x.shield(40), d >= 1 && d <= 20 ? -7 : 0);
                x = of(allPushes(7));
                x.put(40 - d, -1);
                due("on the left, " + d + " away", x.shield(40), 0);
            }
            SlidingFlaws x = of("push 1 9;push 2 4;push 20 100;push 19 50");
            put(x, "0+ 1+ 2- 20+ 21+ 40-");
            due("shield(0)", x.shield(0), 9 - 4 + 100);
            due("shield(1)", x.shield(1), -9 + 50 + 100);
            due("shield(2)", x.shield(2), 50);
            due("shield(20)", x.shield(20), 9 - 100);
            due("shield(39)", x.shield(39), -9);
            due("shield(40)", x.shield(40), 0);
            x = of(allPushes(999));
            put(x, flaws(61, 20, "+"));
            due("the greatest", x.shield(60), 20 * 999);
            x = of(allPushes(999));
            put(x, flaws(1, 20, "-") + " " + flaws(61, 10, "-"));
            due("the least", x.shield(0), -20 * 999);
            due("the rest", x.shield(60), -10 * 999);
        });
        test("52", "SHIELD of a CRACK of a length (0 to 60);", () -> {
            SlidingFlaws x = of("push 1 9");
            put(x, "1+ 60- 61+");
            due("shield(0)", x.shield(0), 9);
            due("shield(59)", x.shield(59), -9);
            due("shield(60)", x.shield(60), 9);
            due("without flaws", new SlidingFlaws().shield(30), 0);
        });
        test("52", "-1000000000 without it.", () -> {
            SlidingFlaws x = of("push 1 9");
            put(x, "0+ 62+");
            for (int bad : new int[] {-1, 61, -60, 79, 80, 99, 100, MIN, MAX}) {
                due("shield(" + bad + ")", x.shield(bad), -1000000000);
            }
        });
        test("VII", "With a DRIVE K (-9999 to 9999) and a TOUGHNESS from low to high (0 to 9999): it RUNS for sure, if K less SHIELD is "
            + "above high; STOPS for sure, if not above low; else it is OPEN.", () -> {
            SlidingFlaws x = of("push 1 100");
            int[][] due = {{4, 0}, {5, 0}, {6, 2}, {9, 2}, {10, 2}, {11, 1}, {12, 1}};
            for (int shield = -100; shield <= 100; shield += 100) {
                x.clear();
                if (shield != 0) {
                    x.put(31, shield / 100);
                }
                for (int[] d : due) {
                    due("crack(30, " + (d[0] + shield) + ", 5, 10)", x.crack(30, d[0] + shield, 5, 10), d[1]);
                }
            }
            x.clear();
            due("nothing against nothing", x.crack(0, 0, 0, 0), 0);
            due("1 against nothing", x.crack(0, 1, 0, 0), 1);
            due("1 against 0 to 1", x.crack(0, 1, 0, 1), 2);
            due("the greatest", x.crack(60, 9999, 9999, 9999), 0);
            due("the greatest", x.crack(60, 9999, 9998, 9999), 2);
            due("the greatest", x.crack(60, 9999, 9998, 9998), 1);
            due("the greatest", x.crack(60, 9999, 0, 9999), 2);
            due("the least", x.crack(60, -9999, 0, 0), 0);
            x.put(61, -1);
            due("with a shield below 0", x.crack(60, 9999, 9999, 9999), 1);
        });
        test("53", "1 it RUNS, 0 it STOPS, 2 OPEN;", () -> {
            SlidingFlaws x = new SlidingFlaws();
            due("runs", x.crack(0, 11, 5, 10), 1);
            due("stops", x.crack(0, 5, 5, 10), 0);
            due("open", x.crack(0, 6, 5, 10), 2);
            due("open", x.crack(0, 10, 5, 10), 2);
            due("low is high: it runs", x.crack(0, 6, 5, 5), 1);
            due("low is high: it stops", x.crack(0, 5, 5, 5), 0);
        });
        test("53", "NONE without these (low not above high).", () -> {
            SlidingFlaws x = new SlidingFlaws();
            for (int bad : new int[] {-1, 61, MIN, MAX}) {
                due("length " + bad, x.crack(bad, 5, 1, 2), NONE);
            }
            for (int bad : new int[] {-10000, 10000, MIN, MAX}) {
                due("k " + bad, x.crack(0, bad, 1, 2), NONE);
            }
            for (int bad : new int[] {-1, 10000, MIN, MAX}) {
                due("low " + bad, x.crack(0, 5, bad, 9999), NONE);
                due("high " + bad, x.crack(0, 5, 0, bad), NONE);
                due("both " + bad, x.crack(0, 5, bad, bad), NONE);
            }
            due("low above high", x.crack(0, 5, 3, 2), NONE);
            due("low above high", x.crack(0, 5, 9999, 9998), NONE);
            due("low above high", x.crack(0, 5, 1, 0), NONE);
        });
        howFar();
    }

    private static void howFar() {
        test("VII", "HOW FAR it runs from a length against a TOUGHNESS: as long as K less SHIELD at its END is above that, "
            + "and the place behind the END has no flaw, it is one longer, 60 at most;", () -> {
            SlidingFlaws x = of("push 1 9;push 2 4;push 3 2");
            due("not above", x.runsTo(0, 5, 5, 0), 0);
            due("above", x.runsTo(0, 6, 5, 0), 60);
            due("one longer", x.runsTo(59, 6, 5, 0), 60);
            due("60 at most", x.runsTo(60, 9999, 0, 0), 60);
            put(x, "30+");
            due("ahead of the flaw", x.runsTo(0, 9999, 0, 0), 29);
            due("ahead of the flaw", x.runsTo(28, 9999, 0, 0), 29);
            due("ahead of the flaw", x.runsTo(29, 9999, 0, 0), 29);
            due("at the flaw", x.runsTo(30, 9999, 0, 0), 60);
            due("a shield of 4 two away", x.runsTo(0, 5, 0, 0), 29);
            due("a shield of 4 two away", x.runsTo(0, 4, 0, 0), 28);
            due("a shield of 2 three away", x.runsTo(0, 3, 0, 0), 28);
            due("a shield of 2 three away", x.runsTo(0, 2, 0, 0), 27);
            due("a shield of 2 three away", x.runsTo(0, 1, 0, 0), 27);
            due("not from the start", x.runsTo(27, 2, 0, 0), 27);
            x.clear();
            put(x, "60-");
            due("ahead of place 60", x.runsTo(0, 9999, 0, 0), 59);
            due("drawn by it", x.runsTo(58, 0, 0, 0), 59);
            due("drawn by it", x.runsTo(57, 0, 1, 0), 59);
            due("drawn by it", x.runsTo(57, 0, 2, 0), 57);
            x.clear();
            put(x, "61+");
            due("the flaw behind place 60", x.runsTo(0, 9999, 0, 0), 60);
            due("its shield", x.runsTo(0, 4, 0, 0), 59);
            due("its shield", x.runsTo(0, 5, 0, 0), 60);
            x.clear();
            put(x, "1-");
            due("a flaw at once", x.runsTo(0, 9999, 0, 0), 0);
            due("from the flaw on", x.runsTo(1, 1, 0, 0), 60);
        });
        test("VII", "K is less by FALL (0 to 999) with each place.", () -> {
            SlidingFlaws x = of("push 1 9");
            due("by 0", x.runsTo(0, 1, 0, 0), 60);
            due("by 1", x.runsTo(0, 10, 0, 1), 10);
            due("by 1", x.runsTo(0, 60, 0, 1), 60);
            due("by 1", x.runsTo(0, 59, 0, 1), 59);
            due("by 3", x.runsTo(5, 13, 10, 3), 6);
            due("by 3", x.runsTo(5, 14, 10, 3), 7);
            due("by 999", x.runsTo(0, 999, 0, 999), 1);
            due("by 999", x.runsTo(0, 1000, 0, 999), 2);
            due("by 999", x.runsTo(0, 9999, 0, 999), 11);
            due("by 999", x.runsTo(0, 9990, 0, 999), 10);
            due("from another length the fall is of the places it runs", x.runsTo(50, 4, 0, 1), 54);
            put(x, "31-");
            due("with a draw of 9 at place 30", x.runsTo(20, 10, 0, 1), 30);
            due("with a draw of 9 at place 30, the flaw behind it", x.runsTo(30, 0, 0, 1), 30);
        });
        test("54", "HOW FAR: the length in the end;", () -> {
            SlidingFlaws x = new SlidingFlaws();
            due("none", x.runsTo(7, -9999, 0, 0), 7);
            due("none", x.runsTo(7, 9999, 9999, 999), 7);
            due("one", x.runsTo(7, 9999, 9998, 1), 8);
            due("all", x.runsTo(0, 9999, 9998, 0), 60);
        });
        test("54", "NONE without these.", () -> {
            SlidingFlaws x = new SlidingFlaws();
            for (int bad : new int[] {-1, 61, MIN, MAX}) {
                due("length " + bad, x.runsTo(bad, 5, 1, 2), NONE);
            }
            for (int bad : new int[] {-10000, 10000, MIN, MAX}) {
                due("k " + bad, x.runsTo(0, bad, 1, 2), NONE);
            }
            for (int bad : new int[] {-1, 10000, MIN, MAX}) {
                due("toughness " + bad, x.runsTo(0, 5, bad, 2), NONE);
            }
            for (int bad : new int[] {-1, 1000, MIN, MAX}) {
                due("fall " + bad, x.runsTo(0, 5, 1, bad), NONE);
            }
        });
    }

    // ---- promise 55

    private static void counting() {
        test("55", "What 0: STEPS, 1: PLANES, 2: EYES, 3: KNOTS, 4: LINES that are there, 5: flaws on the ROW, 6: SLIPPED, 7: WORK, "
            + "8: OUT, 9: LOST (each flaw), 10: flaws that came of sources, 11: bytes of the TAPE, 12: SIGHTS, 13: SYSTEMS, "
            + "14: acts that can be UNDONE.", () -> {
            SlidingFlaws x = of("step 1 0 0;step 0 1 0;plane 0 0 1;eye 1 0 0;eye 0 1 0;eye 0 0 1;source 50 9;base 0 0");
            x.knot(true);
            x.knot(true);
            x.knot(true);
            x.knot(true);
            x.line(0, 1, 1, 0, 0);
            x.line(0, 1, -1, 0, 0);
            x.line(0, 1, 0, 1, 0);
            x.meet(0, 1);
            put(x, "98+ 10+ 13-");
            x.run(10, 2, 0);
            x.sight(0, true);
            x.sight(0, true);
            x.system(0, 0);
            x.feed(0, 0, 0, 0, 0);
            x.feed(0, 0, 0, 0, 0);
            x.end(33);
            long[] due = {2, 1, 3, 4, 1, 4, 7, 70, 1, 2, 4, 33, 2, 1, 4};
            for (int what = 0; what < due.length; what++) {
                due("count(" + what + ")", x.count(what), due[what]);
            }
            // At most, and none.
            x = of(times(16, "step 1 0 0") + ";" + times(16, "plane 0 0 1"));
            due("STEPS", x.count(0), 16);
            due("PLANES", x.count(1), 16);
            tell(x, times(16, "eye 0 0 1") + ";step 1 0 0;plane 0 1 0");
            due("EYES", x.count(2), 16);
            for (int i = 0; i < 70; i++) {
                x.knot(true);
                x.sight(0, true);
                x.system(0, 0);
                x.put(i, 1);
            }
            due("KNOTS", x.count(3), 60);
            due("flaws", x.count(5), 30);
            due("SIGHTS", x.count(12), 20);
            due("SYSTEMS", x.count(13), 8);
            due("acts", x.count(14), 30);
            for (int i = 0; i < 125; i++) {
                x.line(0, 1, 1, 0, 0);
            }
            due("LINES", x.count(4), 120);
            // Not undone, the lines and the rest: undoing is of the ROW.
            x.undo();
            due("flaws", x.count(5), 29);
            due("acts", x.count(14), 29);
            due("LINES", x.count(4), 120);
        });
        test("55", "NONE for others.", () -> {
            SlidingFlaws x = new SlidingFlaws();
            for (int bad : new int[] {-1, 15, 16, -14, 100, MIN, MAX}) {
                due("count(" + bad + ")", x.count(bad), NONE);
            }
            due("the last", x.count(14), 0);
        });
    }
}
