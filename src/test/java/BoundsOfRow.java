/** Each sentence of part III and of promises 20 to 32. */
final class BoundsOfRow extends Bounds {
    static void all() {
        places();
        ticks();
        sources();
        runs();
        callsOfTheRow();
        aims();
        fits();
    }

    // ---- places, HOLDS, what a flaw FEELS

    private static void places() {
        test("III", "THE ROW has places 0 to 99; on each at most one of the flaws, 30 at most, each of sign 1 or -1.", () -> {
            SlidingFlaws x = new SlidingFlaws();
            due("put(0, 1)", x.put(0, 1), true);
            due("put(99, -1)", x.put(99, -1), true);
            for (int bad : new int[] {-1, 100, -100, 101, MIN, MAX}) {
                due("put(" + bad + ", 1)", x.put(bad, 1), false);
                due("at(" + bad + ")", x.at(bad), 0);
            }
            for (int sign : new int[] {1, -1}) {
                due("at most one, place 0", x.put(0, sign), false);
                due("at most one, place 99", x.put(99, sign), false);
            }
            for (int bad : new int[] {0, 2, -2, 3, MIN, MAX}) {
                due("put(50, " + bad + ")", x.put(50, bad), false);
            }
            for (int i = 3; i <= 30; i++) {
                due("flaw " + i, x.put(i, i % 2 == 0 ? 1 : -1), true);
            }
            due("a thirty-first", x.put(50, 1), false);
            due("count(5)", x.count(5), 30);
            due("at(50)", x.at(50), 0);
        });
        test("III", "HOLDS at a place: LOW and HIGH of its speck, else of the base.", () -> {
            String text = "base 5 9;speck 50 7 30;speck 0 0 0;speck 99 9999 9999";
            SlidingFlaws x = of(text);
            int[][] due = {{50, 7, 30}, {49, 5, 9}, {51, 5, 9}, {0, 0, 0}, {99, 9999, 9999}};
            for (int[] d : due) {
                due("hold(" + d[0] + ", 0)", x.hold(d[0], 0), d[1]);
                due("hold(" + d[0] + ", 1)", x.hold(d[0], 1), d[2]);
            }
            ran(text, "50+", 7, 1, 0, 0, "50+");
            ran(text, "50+", 8, 1, 0, 1, "51+");
            ran(text, "50+", 30, 1, 1, 0, "50+");
            ran(text, "50+", 31, 1, 1, 1, "51+");
            ran(text, "49+", 5, 1, 0, 0, "49+");
            ran(text, "49+", 6, 9, 0, 1, "50+");
            ran(text, "49+", 9, 1, 1, 0, "49+");
            ran(text, "49+", 10, 9, 1, 1, "50+");
            ran(text, "0+", 1, 9, 0, 1, "1+");
            ran(text, "99-", 9999, 9, 0, 0, "99-");
        });
        test("III", "With a pull Q (-9999 to 9999) a flaw of sign s FEELS (to the right): s * Q and, of each other flaw of sign r, "
            + "d apart (20 at most): s * r * PUSH at d, to the right if that one is on its left, else to the left.", BoundsOfRow::feeling);
        test("22", "What the flaw at a place FEELS with a pull;", () -> {
            SlidingFlaws x = of("push 1 9;push 2 4");
            put(x, "0- 1+ 2+ 99-");
            due("feels(0, 3)", x.feels(0, 3), -3 + 9 + 4);
            due("feels(1, 3)", x.feels(1, 3), 3 - 9 - 9);
            due("feels(2, -3)", x.feels(2, -3), -3 - 4 + 9);
            due("feels(99, 9999)", x.feels(99, 9999), -9999);
            due("feels(99, -9999)", x.feels(99, -9999), 9999);
        });
        test("22", "-1000000000 without these.", () -> {
            SlidingFlaws x = of("push 1 9");
            put(x, "0+ 99-");
            for (int bad : new int[] {-1, 1, 98, 100, 200, MIN, MAX}) {
                due("feels(" + bad + ", 0)", x.feels(bad, 0), -1000000000);
            }
            for (int bad : new int[] {-10000, 10000, MIN, MAX}) {
                due("feels(0, " + bad + ")", x.feels(0, bad), -1000000000);
                due("feels(5, " + bad + ")", x.feels(5, bad), -1000000000);
            }
        });
    }

    private static void feeling() {
        for (int d = 1; d <= 20; d++) {
            for (int s = -1; s <= 1; s += 2) {
                for (int r = -1; r <= 1; r += 2) {
                    SlidingFlaws x = of("push " + d + " 7");
                    x.put(50, s);
                    x.put(50 - d, r);
                    due("that one " + d + " on the left", x.feels(50, 100), s * 100 + s * r * 7);
                    due("this one on its right", x.feels(50 - d, 0), -s * r * 7);
                    due("moved on", x.put(51 + d, r), true);
                    due("one more beyond", x.feels(50, -100), s * -100 + s * r * 7);
                    x.put(50 + d, r);
                    due("one on either side", x.feels(50, 5), s * 5);
                }
            }
        }
        SlidingFlaws x = of(allPushes());
        put(x, "0+ 21+ 42- 63- 84+");
        for (int place = 0; place < 100; place += 21) {
            due("21 apart", x.feels(place, 0), 0);
        }
        x = of(allPushes());
        put(x, "0+ 80+ 99+");
        due("none is on the other side of the rim", x.feels(0, 0), 0);
        due("19 apart", x.feels(99, 0), 999);
        due("19 apart", x.feels(80, 0), -999);
        x = of(allPushes());
        put(x, flaws(30, 20, "+") + " 50+ " + flaws(51, 9, "-"));
        due("the most to the right", x.feels(50, 9999), 9999 + 29 * 999);
        x = of(allPushes());
        put(x, flaws(30, 20, "+") + " 50- " + flaws(51, 9, "-"));
        due("the most to the left", x.feels(50, 9999), -9999 - 29 * 999);
        x = new SlidingFlaws();
        put(x, "50-");
        for (int q : new int[] {-9999, -1, 0, 1, 9999}) {
            due("feels(50, " + q + ")", x.feels(50, q), -q);
        }
        for (int q : new int[] {-10000, 10000}) {
            due("feels(50, " + q + ")", x.feels(50, q), -1000000000);
        }
    }

    private static String allPushes() {
        StringBuilder all = new StringBuilder();
        for (int d = 1; d <= 20; d++) {
            all.append(d > 1 ? ";" : "").append("push ").append(d).append(" 999");
        }
        return all.toString();
    }

    // ---- a TICK

    private static void ticks() {
        test("III", "A TICK, by LOW (side 0) or HIGH (side 1): what all feel as the TICK begins.", () -> {
            ran("base 5 9", "50+", 5, 1, 0, 0, "50+");
            ran("base 5 9", "50+", 6, 1, 0, 1, "51+");
            ran("base 5 9", "50+", 9, 1, 1, 0, "50+");
            ran("base 5 9", "50+", 10, 1, 1, 1, "51+");
            // 51 feels -2 + 9 as the TICK begins; when 50 has gone it would feel -2 + 99.
            ran("push 1 9;push 2 99;base 10 10", "50+ 51+", -2, 1, 0, 1, "49+ 51+");
            // The other way round: 52 feels 12 as the TICK begins, and nothing when 51 has gone.
            ran("push 1 12;base 5 5", "51+ 52+", 0, 1, 0, 1, "50+ 53+");
            ran("push 1 9;base 0 0", "50+ 51+ 52+", 0, 9, 0, 1, "49+ 51+ 53+");
        });
        test("III", "From the left to the right (as they stood): one that is still there and feels more than the HOLD of its place "
            + "to the right, or to the left, goes to the next place there:", () -> {
            ran("base 0 0", "10+ 11+ 12+", 5, 1, 0, 1, "10+ 11+ 13+");
            ran("base 0 0", "10+ 11+ 12+", -5, 1, 0, 1, "9+ 10+ 11+");
            ran("base 0 0", "10- 11- 12-", 5, 1, 0, 1, "9- 10- 11-");
            ran("base 0 0", "10- 11- 12-", -5, 1, 0, 1, "10- 11- 13-");
            // Gone ahead of its turn: one, not two, went.
            counts(ran("base 0 0", "10+ 11-", 5, 1, 0, 1, ""), 0, 1, 5, 0, 2, 0);
            // The left one goes first, the other one meets it there.
            counts(ran("base 0 0", "10+ 12-", 5, 1, 0, 1, ""), 0, 2, 10, 0, 2, 0);
            // As they stood: none has two turns.
            ran("base 0 0", "0+ 10+ 50+ 98+", 1, 1, 0, 1, "1+ 11+ 51+ 99+");
            for (int hold : new int[] {0, 1, 500, 9998}) {
                String text = "base 9999 9999;speck 50 " + hold + " " + hold;
                for (int sign = -1; sign <= 1; sign += 2) {
                    String flaw = sign > 0 ? "50+" : "50-";
                    ran(text, flaw, hold, 1, 0, 0, flaw);
                    ran(text, flaw, -hold, 1, 1, 0, flaw);
                    ran(text, flaw, sign * (hold + 1), 5, 0, 1, sign > 0 ? "51+" : "51-");
                    ran(text, flaw, -sign * (hold + 1), 5, 1, 1, sign > 0 ? "49+" : "49-");
                }
            }
            ran("base 9999 9999", "50+", 9999, 1, 0, 0, "50+");
            ran("base 9999 9999;push 1 1", "50+ 51-", 9999, 1, 0, 1, "");
            // The HOLD is that of its place, not of the next one.
            ran("base 0 0;speck 51 99 99", "50+", 5, 9, 0, 1, "51+");
        });
        test("III", "beyond 0 or 99 it is gone (OUT);", () -> {
            counts(ran("base 0 0", "0+ 99+", 5, 1, 0, 1, "1+"), 1, 2, 10, 1, 0, 0);
            counts(ran("base 0 0", "0+ 99+", -5, 1, 0, 1, "98+"), 1, -2, 10, 1, 0, 0);
            counts(ran("base 0 0", "0- 99-", 5, 1, 0, 1, "98-"), 1, 2, 10, 1, 0, 0);
            counts(ran("base 0 0", "0- 99-", -5, 1, 0, 1, "1-"), 1, -2, 10, 1, 0, 0);
            counts(ran("base 0 0", "0+ 99-", -5, 1, 0, 1, ""), 0, -2, 10, 2, 0, 0);
            counts(ran("base 0 0", "1+ 98-", -5, 1, 0, 1, "0+ 99-"), 2, -2, 10, 0, 0, 0);
            counts(ran("base 0 0", "98+", 5, 9, 0, 2, ""), 0, 2, 10, 1, 0, 0);
        });
        test("III", "where one of its sign stands it stays;", () -> {
            // The second is held: the first stays as well, and none goes.
            counts(ran("base 0 0;speck 51 99 99", "50+ 51+", 5, 9, 0, 0, "50+ 51+"), 2, 0, 0, 0, 0, 0);
            counts(ran("base 0 0;speck 51 99 99", "51- 52-", 5, 9, 0, 0, "51- 52-"), 2, 0, 0, 0, 0, 0);
            counts(ran("base 0 0;speck 0 99 99", "0+ 1+", -5, 9, 0, 0, "0+ 1+"), 2, 0, 0, 0, 0, 0);
            counts(ran("base 0 0;speck 99 99 99", "98+ 99+", 5, 9, 0, 0, "98+ 99+"), 2, 0, 0, 0, 0, 0);
            // One that comes out of the way ahead of its turn is no hindrance; one that comes later is.
            ran("base 0 0", "98+ 99+", 5, 1, 0, 1, "98+");
            ran("base 0 0", "0+ 1+", -5, 1, 0, 1, "0+");
        });
        test("III", "where one of the other sign stands both are gone (LOST).", () -> {
            counts(ran("base 0 0;speck 51 99 99", "50+ 51-", 5, 9, 0, 1, ""), 0, 1, 5, 0, 2, 0);
            counts(ran("base 0 0;speck 50 99 99", "50+ 51-", 5, 9, 0, 1, ""), 0, 1, 5, 0, 2, 0);
            counts(ran("base 0 0;speck 0 99 99", "0- 1+", -5, 9, 0, 1, ""), 0, -1, 5, 0, 2, 0);
            counts(ran("base 0 0;speck 99 99 99", "98+ 99-", 5, 9, 0, 1, ""), 0, 1, 5, 0, 2, 0);
            // 21 feels enough to the right, but is gone when its turn comes.
            counts(ran("push 1 9;base 0 0", "20+ 21- 22+", -1, 1, 0, 1, "21+"), 1, 0, 0, 0, 2, 0);
            // Two pairs in one TICK, and one flaw that stays behind them.
            counts(ran("base 0 0", "10+ 11- 20+ 21- 22-", 5, 1, 0, 1, "21-"), 1, 3, 15, 0, 4, 0);
        });
        test("III", "SLIPPED: of each flaw that went one place to the right its sign, to the left its sign less (OUT and LOST, too).", () -> {
            due("+ to the right", ran("base 0 0", "50+", 5, 3, 0, 3, "53+").count(6), 3);
            due("+ to the left", ran("base 0 0", "50+", -5, 3, 0, 3, "47+").count(6), -3);
            due("- to the left", ran("base 0 0", "50-", 5, 3, 0, 3, "47-").count(6), 3);
            due("- to the right", ran("base 0 0", "50-", -5, 3, 0, 3, "53-").count(6), -3);
            due("both ways", ran("push 1 9;base 0 0", "50+ 51+", 0, 1, 0, 1, "49+ 52+").count(6), 0);
            due("OUT", ran("base 0 0", "99+", 5, 3, 0, 1, "").count(6), 1);
            due("OUT", ran("base 0 0", "0-", 5, 3, 0, 1, "").count(6), 1);
            due("LOST", ran("base 0 0", "50+ 51-", 5, 3, 0, 1, "").count(6), 1);
            due("staying", ran("base 0 0;speck 51 9 9", "50+ 51+", 5, 3, 0, 0, "50+ 51+").count(6), 0);
            SlidingFlaws x = of("source 50 0;base 99 99");
            x.run(5, 1, 0);
            due("coming", x.count(6), 0);
        });
        test("III", "WORK: Q times what was SLIPPED, TICK by TICK.", () -> {
            SlidingFlaws x = of("base 0 0;push 1 20");
            put(x, "50+");
            x.run(9999, 1, 0);
            due("to the right", x.count(7), 9999);
            x.run(-9999, 1, 0);
            due("to the left", x.count(7), 2 * 9999);
            due("slipped", x.count(6), 0);
            put(x, "51+");
            x.run(0, 1, 0);
            due("without a pull", x.count(7), 2 * 9999);
            x.clear();
            put(x, "50+ 51+");
            x.run(7, 1, 0);
            due("one each way", x.count(7), 0);
            x.clear();
            put(x, "50+ 51-");
            x.run(-7, 1, 0);
            due("against the pull", x.count(7), -7);
            // Beyond an int: thirty flaws go out, 225 times.
            x = of("base 0 0");
            put(x, flaws(0, 30, "+"));
            x.mark();
            for (int i = 0; i < 225; i++) {
                x.run(9999, 199, 0);
                x.back();
            }
            due("slipped", x.count(6), 225 * 2565);
            due("work", x.count(7), 9999L * 225 * 2565);
            due("out", x.count(8), 225 * 30);
        });
    }

    // ---- sources

    private static void sources() {
        test("III", "Then the sources, by places: what a flaw of sign 1 would feel there (of all as they stand then):", () -> {
            // Behind the TICK's going: the flaw stands at 29 then, 21 apart.
            ran("source 50 0;push 20 9;base 0 0", "30-", 1, 1, 0, 1, "29- 49- 51+");
            // It comes to 20 apart: -9 + 1 is below 0.
            ran("source 50 0;push 20 9;base 0 0", "31-", 1, 1, 0, 1, "30- 49+ 51-");
            ran("source 50 0;push 20 9;base 0 0", "71-", 1, 1, 0, 1, "49- 51+ 70-");
            ran("source 50 0;push 20 9;base 0 0;speck 70 99 99;speck 71 99 99", "71+", 1, 1, 0, 1, "49- 51+ 71+");
            ran("source 50 0;push 20 9;base 0 0;speck 70 99 99;speck 71 99 99", "70+", 1, 1, 0, 1, "49+ 51- 70+");
            // By places, however they are told: the second feels what the first gave, 4 and 2 apart.
            ran("source 53 0;source 50 0;base 99 99;push 4 9;push 2 3", "", 2, 1, 0, 1, "49- 51+ 52+ 54-");
            ran("source 53 0;source 50 0;base 99 99;push 4 5;push 2 3", "", 2, 1, 0, 1, "49- 51+");
            ran("source 53 0;source 50 0;base 99 99;push 4 4;push 2 3", "", 2, 1, 0, 1, "49- 51+ 52- 54+");
            // Of three the first and the third: the second has no room.
            ran("source 54 0;source 50 0;source 52 0;base 99 99", "", 2, 1, 0, 1, "49- 51+ 53- 55+");
            // Beyond the rims nothing pushes.
            ran("source 1 0;push 2 9;base 99 99", "99-", 1, 1, 0, 1, "0- 2+ 99-");
        });
        test("III", "above its HOLD one of sign 1 comes to the right of it and one of -1 to the left; "
            + "below less its HOLD the other way round;", () -> {
            for (int hold : new int[] {0, 1, 30, 9998}) {
                String text = "source 50 " + hold + ";base 9999 9999";
                ran(text, "", hold, 1, 0, 0, "");
                ran(text, "", -hold, 1, 0, 0, "");
                counts(ran(text, "", hold + 1, 1, 0, 1, "49- 51+"), 2, 0, 0, 0, 0, 2);
                counts(ran(text, "", -hold - 1, 1, 0, 1, "49+ 51-"), 2, 0, 0, 0, 0, 2);
            }
            ran("source 50 9999;base 9999 9999", "", 9999, 5, 0, 0, "");
            ran("source 50 9999;base 9999 9999", "", -9999, 5, 1, 0, "");
            ran("source 50 9999;base 9999 9999;push 10 1;speck 40 9999 9999", "40+", 9999, 1, 1, 1, "40+ 49- 51+");
            ran("source 1 0;source 98 0;base 9999 9999", "", 1, 1, 0, 1, "0- 2+ 97- 99+");
            ran("source 1 0;source 98 0;base 9999 9999", "", -1, 1, 0, 1, "0+ 2- 97+ 99-");
            // The HOLDS of its place are of no matter, nor is the side.
            ran("source 50 5;speck 50 0 0;base 9999 9999", "", 5, 1, 0, 0, "");
            ran("source 50 5;speck 50 900 900;base 9999 9999", "", 6, 1, 1, 1, "49- 51+");
        });
        test("III", "only if its place and both beside it are free, and there are 28 or fewer.", () -> {
            for (int place = 48; place <= 52; place++) {
                for (String sign : new String[] {"+", "-"}) {
                    boolean free = place < 49 || place > 51;
                    String there = place + sign;
                    String all = place < 49 ? there + " 49- 51+" : "49- 51+ " + there;
                    ran("source 50 0;base 9999 9999", there, 5, 1, 0, free ? 1 : 0, free ? all : there);
                }
            }
            for (int many = 26; many <= 30; many++) {
                String there = flaws(0, many, "+");
                boolean come = many <= 28;
                SlidingFlaws x = ran("source 50 0;base 9999 9999", there, 5, 9, 0, come ? 1 : 0, there + (come ? " 49- 51+" : ""));
                counts(x, many + (come ? 2 : 0), 0, 0, 0, 0, come ? 2 : 0);
            }
            String there = flaws(0, 28, "+");
            ran("source 60 0;source 50 0;base 9999 9999", there, 5, 9, 0, 1, there + " 49- 51+");
            there = flaws(0, 27, "+");
            ran("source 60 0;source 50 0;base 9999 9999", there, 5, 9, 0, 1, there + " 49- 51+");
            there = flaws(0, 26, "+");
            ran("source 60 0;source 50 0;base 9999 9999", there, 5, 9, 0, 1, there + " 49- 51+ 59- 61+");
            // As many as there are when its turn has come: two were lost, one has gone out.
            there = flaws(0, 27, "+");
            ran("source 50 0;base 9999 9999;speck 70 0 0", there + " 70+ 71-", 5, 1, 0, 1, there + " 49- 51+");
            there = flaws(0, 28, "+");
            ran("source 50 0;base 9999 9999;speck 99 0 0", there + " 99+", 5, 1, 0, 1, there + " 49- 51+");
            // Its place is free only when the one on it has gone: two places away.
            ran("source 50 0;base 0 0;speck 49 99 99", "51+", 5, 1, 0, 1, "49- 51+ 52+");
        });
    }

    // ---- RUNS, SURE, SHAPE

    private static void runs() {
        test("III", "A RUN: so many TICKS (0 to 200) with a pull; it ends ahead of a TICK in which nothing would go, be gone or come "
            + "(that is none of its TICKS).", () -> {
            ran("base 0 0", "50+", 5, 0, 0, 0, "50+");
            ran("base 0 0", "50+", 5, 1, 0, 1, "51+");
            ran("base 0 0", "0+", 1, 200, 1, 100, "");
            ran("base 0 0", "99-", 1, 200, 1, 100, "");
            ran("base 0 0", "0+", 1, 99, 1, 99, "99+");
            ran("base 0 0", "0+", 1, 100, 1, 100, "");
            ran("base 0 0", "", 9999, 200, 1, 0, "");
            ran("base 0 0;speck 60 99 99", "50+", 5, 200, 0, 10, "60+");
            // A TICK in which one alone is gone: out, or lost.
            ran("base 0 0", "99+", 5, 200, 0, 1, "");
            ran("base 9 9;speck 50 0 0", "50+ 51-", 5, 200, 0, 1, "");
            // A TICK in which something comes alone.
            ran("base 9999 9999;source 50 0", "", 5, 200, 0, 1, "49- 51+");
            // It goes on for as long as it may.
            SlidingFlaws x = of("source 50 0;base 0 0");
            for (int ticks : new int[] {199, 200}) {
                due("run of " + ticks, x.run(5, ticks, 0), ticks);
                due("what came", x.count(10) > 0, true);
                x.clear();
            }
            due("201", x.run(5, 201, 0), NONE);
            due("-1", x.run(5, -1, 0), NONE);
        });
        test("26", "A RUN: how many TICKS it had;", () -> {
            SlidingFlaws x = of("base 3 8");
            put(x, "50+");
            due("by LOW", x.run(4, 5, 0), 5);
            due("by LOW", x.run(3, 5, 0), 0);
            due("by HIGH", x.run(8, 5, 1), 0);
            due("by HIGH", x.run(9, 5, 1), 5);
            due("at(60)", x.at(60), 1);
            due("the greatest pull", x.run(9999, 1, 0), 1);
            due("the least pull", x.run(-9999, 1, 0), 1);
            due("no TICKS", x.run(9999, 0, 0), 0);
            due("at(60)", x.at(60), 1);
        });
        test("26", "NONE, and nothing happens, without these.", () -> {
            SlidingFlaws x = of("base 0 0;source 20 0");
            put(x, "50+");
            for (int bad : new int[] {-10000, 10000, MIN, MAX}) {
                due("run(" + bad + ", 1, 0)", x.run(bad, 1, 0), NONE);
            }
            for (int bad : new int[] {-1, 201, 202, MIN, MAX}) {
                due("run(5, " + bad + ", 0)", x.run(5, bad, 0), NONE);
            }
            for (int bad : new int[] {-1, 2, 3, MIN, MAX}) {
                due("run(5, 1, " + bad + ")", x.run(5, 1, bad), NONE);
            }
            same("the row", row(x), "50+");
            counts(x, 1, 0, 0, 0, 0, 0);
            due("acts", x.count(14), 1);
            due("undo", x.undo(), true);
            due("refused, behind an undoing", x.run(5, 201, 0), NONE);
            due("redo", x.redo(), true);
            same("the row", row(x), "50+");
        });
        test("III", "SURE: a RUN by LOW and one by HIGH from the same ROW come to the same ROW.", () -> {
            SlidingFlaws x = of("base 10 20");
            put(x, "50+");
            for (int q = -30; q <= 30; q++) {
                int felt = Math.abs(q);
                due("sure(" + q + ", 1)", x.sure(q, 1), felt > 10 && felt <= 20 ? 0 : 1);
            }
            // By LOW both meet at 11 in the first TICK, by HIGH at 10 in the second one.
            x = of("base 0 0;speck 10 0 99");
            put(x, "10+ 12-");
            due("one TICK", x.sure(5, 1), 0);
            due("two TICKS", x.sure(5, 2), 1);
            due("none", x.sure(5, 0), 1);
            x = of("base 0 0;speck 98 0 99;speck 99 0 9");
            put(x, "98+");
            due("98 is held by HIGH", x.sure(9, 1), 0);
            x = of("base 0 0;speck 99 0 9");
            put(x, "98+");
            due("both come to 99", x.sure(9, 1), 1);
            due("by LOW it is out", x.sure(9, 2), 0);
            due("out by both", x.sure(10, 2), 1);
            // At the rims, where one place makes the difference.
            for (int rim = 0; rim < 100; rim += 99) {
                for (int sign = -1; sign <= 1; sign += 2) {
                    x = of("base 10 20");
                    x.put(rim, sign);
                    int out = rim == 0 ? -15 * sign : 15 * sign;
                    due("out by LOW alone", x.sure(out, 1), 0);
                    due("out by both", x.sure(out * 2, 1), 1);
                    due("the other way by LOW alone", x.sure(-out, 1), 0);
                }
            }
            // By LOW 50 goes right and is lost with 51; by HIGH it is 51 that goes left.
            x = of("base 0 0;speck 50 0 99;push 1 20");
            put(x, "50+ 51-");
            due("lost by both", x.sure(0, 9), 1);
            // Signs count, not places alone: the source gives while by HIGH, not by LOW, the two still push it.
            x = of("base 0 0;speck 10 0 99;speck 19 9999 9999;speck 21 9999 9999;source 20 3;push 10 20;push 9 30");
            put(x, "10+ 12-");
            due("the same places, other signs", x.sure(5, 2), 0);
            x.run(5, 2, 0);
            same("by LOW", row(x), "19- 21+");
            x.undo();
            x.run(5, 2, 1);
            same("by HIGH", row(x), "19+ 21-");
            // The ROW counts alone: what was SLIPPED on the way to it, was LOST and came is not the same.
            String text = "base 0 15;push 1 29;source 5 21";
            String becomes = "1+ 3+ 4+ 6- 7- 9- 11- 13-";
            counts(ran(text, "0-", -25, 8, 0, 8, becomes), 8, -23, 575, 1, 8, 16);
            counts(ran(text, "0-", -25, 8, 1, 8, becomes), 8, -29, 725, 1, 2, 10);
            x = of(text);
            put(x, "0-");
            due("other ways to one ROW", x.sure(-25, 8), 1);
            x = of("base 99 99;source 50 0;speck 70 5 6");
            put(x, "70-");
            due("sources are alike", x.sure(5, 200), 1);
            due("the speck is not", x.sure(6, 200), 0);
        });
        test("27", "Whether a RUN from the ROW as it is is SURE: 1, 0;", () -> {
            SlidingFlaws x = of("base 1 2;speck 60 0 9");
            put(x, "50+");
            due("sure(5, 10)", x.sure(5, 10), 1);
            due("sure(5, 11)", x.sure(5, 11), 0);
            due("sure(2, 200)", x.sure(2, 200), 0);
            due("sure(1, 200)", x.sure(1, 200), 1);
            due("sure(-9999, 200)", x.sure(-9999, 200), 1);
            due("sure(9999, 200)", x.sure(9999, 200), 1);
            due("sure(9999, 0)", x.sure(9999, 0), 1);
            x.run(5, 10, 0);
            due("from the ROW as it is then", x.sure(5, 1), 0);
        });
        test("27", "NONE without these (nothing happens).", () -> {
            SlidingFlaws x = of("base 1 2;source 20 0");
            put(x, "50+");
            x.mark();
            put(x, "60-");
            for (int bad : new int[] {-10000, 10000, MIN, MAX}) {
                due("sure(" + bad + ", 1)", x.sure(bad, 1), NONE);
            }
            for (int bad : new int[] {-1, 201, MIN, MAX}) {
                due("sure(1, " + bad + ")", x.sure(1, bad), NONE);
            }
            x.undo();
            x.redo();
            due("sure", x.sure(2, 200), 0);
            due("sure", x.sure(9, 200), 1);
            same("the row", row(x), "50+ 60-");
            counts(x, 2, 0, 0, 0, 0, 0);
            due("acts", x.count(14), 2);
            due("back", x.back(), 1);
        });
        test("III", "SHAPE of what was SLIPPED along STEP b in PLANE n: SLIPPED times b's part i times n's part j.", () -> {
            SlidingFlaws x = of("step 1 -2 9;plane 4 -9 6;step 9 9 9;plane 0 0 1;base 0 0");
            int[] b = {1, -2, 9};
            int[] n = {4, -9, 6};
            due("none", x.shape(0, 0, 0, 0), 0);
            put(x, "10+ 80-");
            x.run(5, 7, 0);
            for (int turn = 0; turn < 2; turn++) {
                for (int i = 0; i < 3; i++) {
                    for (int j = 0; j < 3; j++) {
                        due("shape(0, 0, " + i + ", " + j + ")", x.shape(0, 0, i, j), (turn == 0 ? 14 : -4) * b[i] * n[j]);
                    }
                }
                due("another STEP and PLANE", x.shape(1, 1, 1, 2), (turn == 0 ? 14 : -4) * 9);
                x.run(-5, 9, 0);
            }
        });
        test("28", "SHAPE of all that was SLIPPED, STEP, PLANE, parts i and j (0 to 2);", () -> {
            SlidingFlaws x = of("step 9 9 9;plane 9 9 9;base 0 0");
            put(x, flaws(0, 30, "+"));
            x.mark();
            for (int i = 0; i < 225; i++) {
                x.run(1, 199, 0);
                x.back();
            }
            due("all", x.shape(0, 0, 2, 2), 225L * 2565 * 81);
            x.clear();
            due("cleared", x.shape(0, 0, 2, 2), 0);
            put(x, "50-");
            x.run(1, 1, 0);
            due("one", x.shape(0, 0, 0, 0), 81);
            x.undo();
            due("undone", x.shape(0, 0, 0, 0), 0);
        });
        test("28", "-1000000000000 without these.", () -> {
            SlidingFlaws x = of("step 1 1 1;plane 1 1 1;plane 2 2 2");
            for (int bad : new int[] {-1, 3, 15, 16, MIN, MAX}) {
                due("step " + bad, x.shape(bad, 0, 0, 0), -1000000000000L);
                due("plane " + bad, x.shape(0, bad, 0, 0), -1000000000000L);
                due("i " + bad, x.shape(0, 0, bad, 0), -1000000000000L);
                due("j " + bad, x.shape(0, 0, 0, bad), -1000000000000L);
            }
            due("behind the last STEP", x.shape(1, 0, 0, 0), -1000000000000L);
            due("the last PLANE", x.shape(0, 1, 2, 2), 0);
            due("behind the last PLANE", x.shape(0, 2, 0, 0), -1000000000000L);
            due("no TEXT", new SlidingFlaws().shape(0, 0, 0, 0), -1000000000000L);
        });
    }

    // ---- promises 20 to 25

    private static void callsOfTheRow() {
        test("20", "A flaw comes to a place: true;", () -> {
            SlidingFlaws x = new SlidingFlaws();
            for (int place : new int[] {0, 1, 50, 98, 99}) {
                int sign = place % 2 == 0 ? 1 : -1;
                due("put(" + place + ", " + sign + ")", x.put(place, sign), true);
                due("at(" + place + ")", x.at(place), sign);
            }
            due("count(5)", x.count(5), 5);
            due("what came of sources", x.count(10), 0);
        });
        test("20", "false, and nothing happens: no such place, sign, one is there, or there are 30.", () -> {
            SlidingFlaws x = of("base 0 0");
            put(x, "0+ 99-");
            int[][] bad = {{-1, 1}, {100, 1}, {MIN, 1}, {MAX, 1}, {5, 0}, {5, 2}, {5, -2}, {5, MIN}, {5, MAX}, {0, 1}, {0, -1},
                {99, 1}, {99, -1}, {-1, 0}, {100, 2}};
            for (int[] b : bad) {
                due("put(" + b[0] + ", " + b[1] + ")", x.put(b[0], b[1]), false);
            }
            same("the row", row(x), "0+ 99-");
            counts(x, 2, 0, 0, 0, 0, 0);
            due("acts", x.count(14), 2);
            x.undo();
            for (int[] b : new int[][] {{-1, 1}, {5, 0}, {0, -1}}) {
                due("refused, behind an undoing", x.put(b[0], b[1]), false);
            }
            due("redo", x.redo(), true);
            put(x, flaws(1, 27, "+"));
            due("count(5)", x.count(5), 29);
            due("the thirtieth", x.put(50, 1), true);
            due("there are 30", x.put(51, 1), false);
            due("acts", x.count(14), 30);
            due("count(5)", x.count(5), 30);
            due("0 and 99 go out", x.run(-1, 1, 0), 1);
            due("count(5)", x.count(5), 28);
            due("there is room again", x.put(80, 1), true);
            due("there is room again", x.put(82, 1), true);
            due("there are 30 again", x.put(84, 1), false);
        });
        test("21", "Sign of the flaw at a place;", () -> {
            SlidingFlaws x = new SlidingFlaws();
            put(x, "0+ 1- 98+ 99-");
            int[][] due = {{0, 1}, {1, -1}, {98, 1}, {99, -1}};
            for (int[] d : due) {
                due("at(" + d[0] + ")", x.at(d[0]), d[1]);
            }
        });
        test("21", "0: none, or no such place.", () -> {
            SlidingFlaws x = new SlidingFlaws();
            put(x, "0+ 99-");
            for (int place : new int[] {1, 98, -1, 100, -99, -100, 199, MIN, MAX}) {
                due("at(" + place + ")", x.at(place), 0);
            }
        });
        test("23", "The ROW is empty; SLIPPED, WORK, OUT, LOST and what came are 0: how many flaws there were.", () -> {
            SlidingFlaws x = of("source 50 0;base 0 0;step 1 1 1;plane 1 1 1");
            due("an empty ROW", x.clear(), 0);
            due("it is an act", x.count(14), 1);
            put(x, "0- 10+ 11- 20+");
            x.mark();
            x.run(5, 2, 0);
            for (int what = 5; what <= 10; what++) {
                due("count(" + what + ")", x.count(what) > 0, true);
            }
            due("clear()", x.clear(), 5);
            counts(x, 0, 0, 0, 0, 0, 0);
            same("the row", row(x), "");
            due("shape()", x.shape(0, 0, 0, 0), 0);
            due("clear() again", x.clear(), 0);
            due("the mark stays", x.back(), 4);
            x.clear();
            put(x, flaws(0, 30, "+"));
            due("thirty", x.clear(), 30);
            put(x, flaws(70, 30, "-"));
            due("thirty again", x.clear(), 30);
        });
        test("24", "The ROW as it is is marked (in place of the mark before; at first an empty one).", () -> {
            SlidingFlaws x = of("base 0 0");
            put(x, "5+");
            due("an empty one at first", x.back(), 0);
            same("the row", row(x), "");
            put(x, "5+ 7-");
            x.mark();
            x.run(5, 1, 0);
            x.mark();
            put(x, "90+");
            due("in place of the mark before", x.back(), 0);
            same("the row", row(x), "");
            put(x, "0+ 99-");
            x.mark();
            x.mark();
            x.clear();
            due("back()", x.back(), 2);
            same("the row", row(x), "0+ 99-");
            x.run(1, 200, 0);
            due("back() again", x.back(), 2);
            same("the row", row(x), "0+ 99-");
            x.clear();
            x.mark();
            put(x, flaws(0, 30, "-"));
            due("an empty one", x.back(), 0);
            put(x, flaws(0, 30, "-"));
            x.mark();
            x.clear();
            due("a full one", x.back(), 30);
            due("full", x.put(50, 1), false);
            due("no act", x.count(14), 50);
        });
        test("25", "The ROW is as it was marked (SLIPPED and all else stay): how many flaws.", () -> {
            SlidingFlaws x = of("base 0 0;source 50 0");
            put(x, "10+ 11- 98+");
            x.mark();
            x.run(5, 3, 0);
            long[] before = new long[11];
            for (int what = 6; what <= 10; what++) {
                before[what] = x.count(what);
                due("count(" + what + ")", before[what] > 0, true);
            }
            due("back()", x.back(), 3);
            same("the row", row(x), "10+ 11- 98+");
            for (int what = 6; what <= 10; what++) {
                due("count(" + what + ")", x.count(what), before[what]);
            }
            due("count(5)", x.count(5), 3);
            x.run(5, 3, 0);
            for (int what = 6; what <= 10; what++) {
                due("count(" + what + "), twice", x.count(what), 2 * before[what]);
            }
        });
    }

    // ---- AIMED

    private static SlidingFlaws thirty() {
        SlidingFlaws x = of("base 0 0");
        put(x, flaws(0, 30, "+"));
        return x;
    }

    private static void numbers(SlidingFlaws x, int... due) {
        for (int k = 0; k < due.length; k++) {
            due("aimed(" + k + ")", x.aimed(k), due[k]);
        }
        for (int bad : new int[] {-1, due.length, 5, MIN, MAX}) {
            due("aimed(" + bad + ")", x.aimed(bad), NONE);
        }
    }

    private static void aims() {
        test("III", "AIMED: at most 5 pulls one behind the other, each one of 1 to 4 told ones, "
            + "each for the same number of TICKS (1 to 20), by HIGH:", () -> {
            SlidingFlaws x = of("base 0 5");
            put(x, "0+");
            due("by LOW alone", x.aim(1, 5, 0, 0, 0, 20, 1), -2);
            int[][] due = {{1, 1, 1}, {1, 2, 2}, {1, 5, 5}, {1, 6, -2}, {20, 1, 1}, {20, 20, 1}, {20, 21, 2}, {20, 40, 2}, {20, 41, 3},
                {20, 80, 4}, {20, 81, 5}, {20, 100, 5}, {20, 101, -2}, {19, 95, 5}, {19, 96, -2}};
            for (int[] d : due) {
                due("aim() of " + d[1] + " in " + d[0] + " TICKS each", x.aim(1, 6, 0, 0, 0, d[0], d[1]), d[2]);
            }
            for (int n = 1; n <= 4; n++) {
                // The n-th is the only one that goes.
                int[] p = {0, 0, 0, 0};
                p[n - 1] = 6;
                due("the first " + n, x.aim(n, p[0], p[1], p[2], p[3], 20, 20), 1);
                numbers(x, n - 1);
                due("those ahead of it", n == 1 ? -2 : x.aim(n - 1, p[0], p[1], p[2], p[3], 20, 20), -2);
            }
            // Each one may be another one: the third place is passed by a pull of 9 alone.
            x = of("base 0 1;speck 52 0 8");
            put(x, "50+");
            due("a change of pulls", x.aim(2, 2, 9, 0, 0, 1, 4), 4);
            numbers(x, 0, 0, 1, 0);
        });
        test("III", "so that as much as told, or more, is SLIPPED (counted from the ROW as it is; to the same side: "
            + "an aim below 0: so much, or less):", () -> {
            SlidingFlaws x = of("base 0 0");
            put(x, "50+");
            due("as much", x.aim(1, 5, 0, 0, 0, 4, 4), 1);
            due("more", x.aim(1, 5, 0, 0, 0, 4, 3), 1);
            due("not as much", x.aim(1, 5, 0, 0, 0, 4, 5), 2);
            due("to the other side", x.aim(1, 5, 0, 0, 0, 4, -1), -2);
            due("so much", x.aim(1, -5, 0, 0, 0, 4, -4), 1);
            due("or less", x.aim(1, -5, 0, 0, 0, 4, -3), 1);
            due("not so much", x.aim(1, -5, 0, 0, 0, 4, -5), 2);
            due("to the other side", x.aim(1, -5, 0, 0, 0, 4, 1), -2);
            x.run(5, 9, 0);
            due("from the ROW as it is", x.aim(1, 5, 0, 0, 0, 4, 5), 2);
            due("from the ROW as it is", x.aim(1, 5, 0, 0, 0, 4, 4), 1);
            due("from the ROW as it is", x.aim(1, -5, 0, 0, 0, 4, -4), 1);
            x.run(-5, 30, 0);
            due("from the ROW as it is", x.aim(1, 5, 0, 0, 0, 4, 4), 1);
            due("from the ROW as it is", x.aim(1, 5, 0, 0, 0, 4, 5), 2);
            due("from the ROW as it is", x.aim(1, -5, 0, 0, 0, 4, -5), 2);
            due("of both signs", x.aim(2, 5, -5, 0, 0, 4, -5), 2);
            x = of("base 0 0");
            put(x, "99+");
            due("one that goes out", x.aim(1, 5, 0, 0, 0, 20, 1), 1);
            due("no more than one", x.aim(1, 5, 0, 0, 0, 20, 2), -2);
            x = thirty();
            int[][] due = {{1, 1}, {209, 1}, {210, 1}, {211, 2}, {765, 2}, {766, 3}, {999, 3}, {1000, 3}};
            for (int[] d : due) {
                due("aim() of " + d[0] + ", thirty flaws", x.aim(1, 1, 0, 0, 0, 20, d[0]), d[1]);
            }
            x = of("base 0 0");
            put(x, flaws(0, 30, "-"));
            for (int[] d : due) {
                due("aim() of -" + d[0] + ", thirty flaws", x.aim(1, -1, 0, 0, 0, 20, -d[0]), d[1]);
            }
        });
        test("III", "the fewest pulls; of these the least sum of them (taken without sign); of several the first by numbers.", () -> {
            SlidingFlaws x = of("base 0 0;speck 52 0 8;speck 48 0 8");
            put(x, "50+");
            due("the fewest, though of a greater sum", x.aim(2, 1, 9, 0, 0, 3, 3), 1);
            numbers(x, 1);
            due("the least sum", x.aim(4, 50, 10, 9, 11, 3, 3), 1);
            numbers(x, 2);
            due("the least sum, without sign", x.aim(4, -50, -10, 9, -9, 3, -3), 1);
            numbers(x, 3);
            due("the first of several", x.aim(4, 50, 9, 9, 9, 3, 3), 1);
            numbers(x, 1);
            due("the least sum of two", x.aim(2, 9, 1, 0, 0, 2, 3), 2);
            numbers(x, 1, 0);
            due("the first of two of one sum", x.aim(3, 10, 9, 1, 0, 2, 4), 2);
            numbers(x, 2, 1);
            due("the first of several of one sum", x.aim(4, 1, 1, 9, 9, 2, 3), 2);
            numbers(x, 0, 2);
            // The least sum is that of all pulls, not of the first or the greatest one.
            x = of("base 0 0");
            put(x, "50+ 0-");
            due("three and less", x.aim(4, 7, 3, 2, 4, 1, 3), 2);
            numbers(x, 2, 2);
            due("five of nothing else", x.aim(3, 0, 9999, 1, 0, 1, 6), 5);
            numbers(x, 2, 2, 2, 2, 2);
            x = of("base 0 0");
            put(x, "50+");
            due("a sum of 0 is the least", x.aim(1, 0, 0, 0, 0, 1, 1), -2);
            x = of("base 0 0;push 1 9");
            put(x, "50+ 51-");
            due("without any pull", x.aim(3, 9999, -1, 0, 0, 1, 1), 1);
            numbers(x, 2);
        });
        test("29", "AIMED: how many pulls (of a, b, c, d the first n, 1 to 4, each -9999 to 9999; aim -1000 to 1000, not 0);", () -> {
            SlidingFlaws x = of("base 0 0");
            put(x, "50+");
            due("the greatest pull", x.aim(1, 9999, 0, 0, 0, 1, 1), 1);
            due("the least pull", x.aim(1, -9999, 0, 0, 0, 1, -1), 1);
            due("four of these", x.aim(4, 9999, -9999, 9999, -9999, 20, 50), 3);
            numbers(x, 0, 0, 0);
            due("aim 1000", x.aim(4, 9999, -9999, 9999, -9999, 20, 1000), -2);
            due("aim -1000", x.aim(4, 9999, -9999, 9999, -9999, 20, -1000), -2);
            due("aim 1", x.aim(2, 9999, 1, 0, 0, 20, 1), 1);
            due("aim -1", x.aim(2, -9999, -1, 0, 0, 20, -1), 1);
            numbers(x, 1);
            // The others may be anything.
            for (int any : new int[] {10000, -10000, MIN, MAX}) {
                due("the first alone", x.aim(1, 5, any, any, any, 1, 1), 1);
                due("the first two", x.aim(2, 5, 5, any, any, 1, 1), 1);
                due("the first three", x.aim(3, 5, 5, 5, any, 1, 1), 1);
            }
        });
        test("29", "-2: none so;", () -> {
            SlidingFlaws x = of("base 0 0");
            due("an empty ROW", x.aim(4, 1, 2, 3, 4, 20, 1), -2);
            put(x, "50+");
            due("six would do", x.aim(1, 1, 0, 0, 0, 1, 6), -2);
            due("five do", x.aim(1, 1, 0, 0, 0, 1, 5), 5);
            due("no pull", x.aim(1, 0, 0, 0, 0, 20, -1), -2);
        });
        test("29", "NONE without these. (Nothing happens.)", () -> {
            SlidingFlaws x = of("base 0 0;source 20 0");
            put(x, "50+");
            x.mark();
            put(x, "70-");
            x.undo();
            for (int bad : new int[] {-10000, 10000, MIN, MAX}) {
                due("a " + bad, x.aim(1, bad, 5, 5, 5, 5, 5), NONE);
                due("b " + bad, x.aim(2, 5, bad, 5, 5, 5, 5), NONE);
                due("c " + bad, x.aim(3, 5, 5, bad, 5, 5, 5), NONE);
                due("d " + bad, x.aim(4, 5, 5, 5, bad, 5, 5), NONE);
            }
            for (int bad : new int[] {-1, 0, 5, 6, MIN, MAX}) {
                due("n " + bad, x.aim(bad, 5, 5, 5, 5, 5, 5), NONE);
            }
            for (int bad : new int[] {-1, 0, 21, 22, MIN, MAX}) {
                due("ticks " + bad, x.aim(1, 5, 5, 5, 5, bad, 5), NONE);
            }
            for (int bad : new int[] {0, 1001, -1001, MIN, MAX}) {
                due("aim " + bad, x.aim(1, 5, 5, 5, 5, 5, bad), NONE);
            }
            due("one that is", x.aim(2, 5, -5, 0, 0, 5, 5), 1);
            due("one that is not", x.aim(1, 5, 0, 0, 0, 1, 999), -2);
            same("the row", row(x), "50+");
            counts(x, 1, 0, 0, 0, 0, 0);
            due("acts", x.count(14), 1);
            due("redo", x.redo(), true);
            due("back", x.back(), 1);
        });
        test("30", "The number (0 to 3) of the k-th pull by the latest aim() that told 1 or more;", () -> {
            SlidingFlaws x = of("base 0 0");
            put(x, "50+");
            due("one", x.aim(4, 0, 0, 0, 5, 1, 1), 1);
            numbers(x, 3);
            due("five", x.aim(4, 0, 0, 5, 9, 1, 5), 5);
            numbers(x, 2, 2, 2, 2, 2);
            due("none so", x.aim(4, 0, 0, 5, 9, 1, 6), -2);
            numbers(x, 2, 2, 2, 2, 2);
            due("refused", x.aim(4, 0, 0, 5, 9, 1, 0), NONE);
            numbers(x, 2, 2, 2, 2, 2);
            due("refused", x.aim(1, 10000, 0, 0, 0, 1, 1), NONE);
            numbers(x, 2, 2, 2, 2, 2);
            due("two", x.aim(2, 0, 7, 0, 0, 3, 5), 2);
            numbers(x, 1, 1);
            x.clear();
            tell(x, "");
            numbers(x, 1, 1);
        });
        test("30", "NONE.", () -> {
            SlidingFlaws x = of("base 0 0");
            numbers(x);
            due("none so", x.aim(1, 5, 0, 0, 0, 1, 1), -2);
            numbers(x);
            put(x, "50+");
            due("refused", x.aim(0, 5, 0, 0, 0, 1, 1), NONE);
            numbers(x);
            due("one", x.aim(1, 5, 0, 0, 0, 1, 1), 1);
            numbers(x, 0);
        });
    }

    // ---- FITTED

    /** Marked are 50 and 51, of one sign; they stand one place farther apart on either side now. */
    private static SlidingFlaws apart(String text) {
        SlidingFlaws x = of(text);
        put(x, "50+ 51+");
        x.mark();
        x.clear();
        put(x, "49+ 52+");
        return x;
    }

    private static void found(SlidingFlaws x, int distances, int... due) {
        for (int k = 0; k * distances < due.length; k++) {
            for (int i = 0; i < distances; i++) {
                due("fitted(" + k + ", " + i + ")", x.fitted(k, i), due[k * distances + i]);
            }
            for (int bad : new int[] {-1, distances, 3, MIN, MAX}) {
                due("fitted(" + k + ", " + bad + ")", x.fitted(k, bad), NONE);
            }
        }
        for (int bad : new int[] {-1, due.length / distances, 512, MIN, MAX}) {
            due("fitted(" + bad + ", 0)", x.fitted(bad, 0), NONE);
        }
    }

    private static void fits() {
        test("III", "FITTED: PUSHES at up to 3 told distances, each 0, step, 2 * step, .. 7 * step (step 1 to 100), "
            + "others as in the TEXT:", () -> {
            SlidingFlaws x = apart("base 10 99");
            due("12 to 21 are above 10", x.fit(1, 1, 0, 0, 3, 0, 1), 4);
            found(x, 1, 12, 15, 18, 21);
            due("11 to 77", x.fit(1, 1, 0, 0, 11, 0, 1), 7);
            due("none above 10", x.fit(1, 1, 0, 0, 1, 0, 1), 0);
            found(x, 1);
            due("14 alone", x.fit(1, 1, 0, 0, 2, 0, 1), 2);
            found(x, 1, 12, 14);
            due("step 100", x.fit(1, 1, 0, 0, 100, 0, 1), 7);
            found(x, 1, 100, 200, 300, 400, 500, 600, 700);
            x = apart("base 699 999");
            due("700 alone", x.fit(1, 1, 0, 0, 100, 0, 1), 1);
            found(x, 1, 700);
            x = apart("base 700 999");
            due("none above 700", x.fit(1, 1, 0, 0, 100, 0, 1), 0);
            x = apart("base 6 999");
            due("step 1", x.fit(1, 1, 0, 0, 1, 0, 1), 1);
            found(x, 1, 7);
            // 0 is one of them: nothing goes then.
            x = of("base 0 0;push 1 9");
            put(x, "50+ 51+");
            x.mark();
            due("0 alone", x.fit(1, 1, 0, 0, 1, 0, 1), 1);
            found(x, 1, 0);
            // Others as in the TEXT: 1 apart 12 is told, 3 apart nothing or 9.
            x = apart("base 10 99;push 1 12");
            due("another distance", x.fit(1, 20, 0, 0, 50, 0, 1), 8);
            found(x, 1, 0, 50, 100, 150, 200, 250, 300, 350);
            due("the one of the TEXT", x.fit(1, 1, 0, 0, 3, 0, 1), 4);
            due("push(1) stays", x.push(1), 12);
            x = apart("base 10 99;push 1 12;push 3 9");
            due("two TICKS, 3 apart 9", x.fit(1, 1, 0, 0, 3, 0, 2), 4);
            x = apart("base 10 99;push 1 12;push 3 11");
            due("two TICKS, 3 apart 11", x.fit(1, 1, 0, 0, 3, 0, 2), 0);
            due("two TICKS, 3 apart found", x.fit(1, 3, 0, 0, 5, 0, 2), 3);
            found(x, 1, 0, 5, 10);
            // All three of them: 1 apart above 10, 2 apart any, 3 apart not above 10.
            due("three distances", x.fit(3, 1, 2, 3, 10, 0, 2), 6 * 8 * 2);
            due("three distances", x.fit(3, 3, 2, 1, 10, 0, 2), 2 * 8 * 6);
            due("three distances", x.fit(3, 2, 1, 3, 6, 0, 2), 8 * 6 * 2);
            due("three distances, the third step of 1", x.fit(3, 2, 3, 1, 2, 0, 2), 8 * 6 * 2);
            // Its sources, too: with 1 apart any they give once, as told.
            x = of("source 50 5;source 60 3;base 0 0;push 2 1");
            x.mark();
            put(x, "59- 61+");
            due("one of two sources", x.fit(1, 1, 0, 0, 1, 4, 1), 8);
            x.clear();
            put(x, "49- 51+ 59- 61+");
            due("both sources", x.fit(1, 1, 0, 0, 1, 6, 1), 8);
            due("both sources, with too weak a pull", x.fit(1, 1, 0, 0, 1, 5, 1), 0);
            x.clear();
            put(x, "49+ 51- 59+ 61-");
            due("the other way round", x.fit(1, 1, 0, 0, 1, -6, 1), 8);
            // Its specks: by LOW 49 goes on, by HIGH it would not.
            x = of("speck 50 20 99;speck 51 4 99;base 0 99");
            put(x, "50+ 51+");
            x.mark();
            x.clear();
            put(x, "50+ 52+");
            due("one of them held by its speck", x.fit(1, 1, 0, 0, 5, 0, 1), 4);
            found(x, 1, 5, 10, 15, 20);
        });
        test("III", "all with which a told RUN (a pull, TICKS, by LOW) from the ROW as it was marked comes to the ROW as it is:", () -> {
            // By LOW: HIGH would hold all.
            SlidingFlaws x = apart("base 10 9999");
            due("by LOW", x.fit(1, 1, 0, 0, 3, 0, 1), 4);
            due("a pull that takes both", x.fit(1, 1, 0, 0, 3, 9999, 1), 0);
            due("no TICKS", x.fit(1, 1, 0, 0, 3, 0, 0), 0);
            due("with a pull of 1", x.fit(1, 1, 0, 0, 3, 1, 1), 4);
            due("with a pull of 2", x.fit(1, 1, 0, 0, 3, 2, 1), 3);
            due("with a pull of -5", x.fit(1, 1, 0, 0, 3, -5, 1), 2);
            x.back();
            due("marked is as it is, no TICKS", x.fit(1, 1, 0, 0, 3, 9999, 0), 8);
            due("marked is as it is", x.fit(1, 1, 0, 0, 3, 0, 200), 4);
            found(x, 1, 0, 3, 6, 9);
            // The ROW counts alone, not what was SLIPPED on the way to it.
            x = of("base 0 0");
            put(x, "50+");
            x.mark();
            x.clear();
            put(x, "53+");
            due("put where it goes to", x.fit(1, 1, 0, 0, 1, 5, 3), 8);
            due("put where it does not", x.fit(1, 1, 0, 0, 1, 5, 4), 0);
            x.back();
            x.run(5, 9, 0);
            x.run(-5, 6, 0);
            due("gone there and back", x.fit(1, 1, 0, 0, 1, 5, 3), 8);
            // Signs count, not places alone.
            x = of("base 0 0");
            put(x, "50+");
            x.mark();
            x.clear();
            put(x, "50-");
            due("the other sign", x.fit(1, 1, 0, 0, 1, 0, 0), 0);
            for (int rim = 0; rim < 100; rim += 99) {
                SlidingFlaws y = new SlidingFlaws();
                y.put(rim, 1);
                due("one more at the rim", y.fit(1, 1, 0, 0, 1, 0, 0), 0);
                y.mark();
                due("as it is marked", y.fit(1, 1, 0, 0, 1, 0, 0), 8);
                y.clear();
                due("one less at the rim", y.fit(1, 1, 0, 0, 1, 0, 0), 0);
            }
            x.clear();
            due("an empty ROW", x.fit(1, 1, 0, 0, 1, 1, 200), 8);
            due("an empty ROW, not yet", x.fit(1, 1, 0, 0, 1, 1, 49), 0);
            due("an empty ROW", x.fit(1, 1, 0, 0, 1, 1, 50), 8);
            due("an empty one at first", new SlidingFlaws().fit(3, 1, 2, 3, 1, 1, 1), 512);
        });
        test("III", "by numbers, the first distance first.", () -> {
            SlidingFlaws x = apart("base 10 99");
            due("two distances", x.fit(2, 1, 3, 0, 6, 0, 9), 6 * 2);
            int[] due = new int[24];
            for (int i = 0; i < 12; i++) {
                due[2 * i] = 12 + i / 2 * 6;
                due[2 * i + 1] = i % 2 * 6;
            }
            found(x, 2, due);
            due("the other way round", x.fit(2, 3, 1, 0, 6, 0, 9), 12);
            for (int i = 0; i < 12; i++) {
                due[2 * i] = i / 6 * 6;
                due[2 * i + 1] = 12 + i % 6 * 6;
            }
            found(x, 2, due);
        });
        test("31", "FITTED: how many (of distances a, b, c the first n, 1 to 3, unlike, each 1 to 20);", () -> {
            SlidingFlaws x = of("base 0 0");
            int[] powers = {1, 8, 64, 512};
            for (int n = 1; n <= 3; n++) {
                due("the first " + n, x.fit(n, 1, 20, 2, 1, 0, 0), powers[n]);
                due("the first " + n, x.fit(n, 20, 1, 19, 100, 9999, 200), powers[n]);
                due("the first " + n, x.fit(n, 2, 3, 1, 100, -9999, 1), powers[n]);
            }
            for (int any : new int[] {0, 21, 5, -1, MIN, MAX}) {
                due("the first alone", x.fit(1, 5, any, any, 1, 0, 0), 8);
                due("the first two", x.fit(2, 5, 6, any, 1, 0, 0), 64);
            }
            due("like ones behind them", x.fit(2, 5, 6, 6, 1, 0, 0), 64);
        });
        test("31", "NONE without these. (Nothing happens.)", () -> {
            SlidingFlaws x = apart("base 10 99;push 1 5;push 2 6;push 3 7;push 20 8");
            due("one that is", x.fit(3, 3, 1, 2, 3, 0, 1), 4 * 64);
            for (int bad : new int[] {-1, 0, 4, 5, MIN, MAX}) {
                due("n " + bad, x.fit(bad, 1, 2, 3, 1, 0, 1), NONE);
            }
            for (int bad : new int[] {-1, 0, 21, 22, MIN, MAX}) {
                due("a " + bad, x.fit(1, bad, 2, 3, 1, 0, 1), NONE);
                due("b " + bad, x.fit(2, 1, bad, 3, 1, 0, 1), NONE);
                due("c " + bad, x.fit(3, 1, 2, bad, 1, 0, 1), NONE);
            }
            due("a and b alike", x.fit(2, 4, 4, 3, 1, 0, 1), NONE);
            due("a and b alike", x.fit(3, 4, 4, 3, 1, 0, 1), NONE);
            due("a and c alike", x.fit(3, 4, 3, 4, 1, 0, 1), NONE);
            due("b and c alike", x.fit(3, 3, 4, 4, 1, 0, 1), NONE);
            for (int bad : new int[] {-1, 0, 101, 102, MIN, MAX}) {
                due("step " + bad, x.fit(1, 1, 2, 3, bad, 0, 1), NONE);
            }
            for (int bad : new int[] {-10000, 10000, MIN, MAX}) {
                due("q " + bad, x.fit(1, 1, 2, 3, 1, bad, 1), NONE);
            }
            for (int bad : new int[] {-1, 201, 202, MIN, MAX}) {
                due("ticks " + bad, x.fit(1, 1, 2, 3, 1, 0, bad), NONE);
            }
            same("the row", row(x), "49+ 52+");
            counts(x, 2, 0, 0, 0, 0, 0);
            due("acts", x.count(14), 5);
            due("pushes", x.push(1) + 10 * x.push(2) + 100 * x.push(3) + 1000 * x.push(20), 8765);
            due("back", x.back(), 2);
            same("the row", row(x), "50+ 51+");
        });
        test("32", "PUSH at the i-th of the distances by the k-th found by the latest fit() that was not NONE;", () -> {
            SlidingFlaws x = of("base 0 0");
            due("all of 512", x.fit(3, 1, 2, 3, 100, 0, 0), 512);
            int[][] due = {{0, 0, 0, 0}, {1, 0, 0, 100}, {7, 0, 0, 700}, {8, 0, 100, 0}, {63, 0, 700, 700}, {64, 100, 0, 0},
                {511, 700, 700, 700}, {510, 700, 700, 600}};
            for (int turn = 0; turn < 3; turn++) {
                for (int[] d : due) {
                    for (int i = 0; i < 3; i++) {
                        due("fitted(" + d[0] + ", " + i + ")", x.fitted(d[0], i), d[i + 1]);
                    }
                }
                due("behind the last", x.fitted(512, 0), NONE);
                // A refused one, then another TEXT and ROW, change nothing of it.
                if (turn == 0) {
                    due("refused", x.fit(1, 1, 2, 3, 101, 0, 0), NONE);
                    due("refused", x.fit(2, 1, 1, 3, 1, 0, 0), NONE);
                    due("refused", x.fit(4, 1, 2, 3, 1, 0, 0), NONE);
                } else if (turn == 1) {
                    tell(x, "push 1 77");
                    put(x, "50+");
                    x.mark();
                }
            }
            due("one of 8", x.fit(1, 7, 0, 0, 3, 0, 0), 8);
            found(x, 1, 0, 3, 6, 9, 12, 15, 18, 21);
        });
        test("32", "NONE.", () -> {
            SlidingFlaws x = of("base 0 0");
            found(x, 1);
            due("refused", x.fit(0, 1, 2, 3, 1, 0, 0), NONE);
            found(x, 1);
            put(x, "50+");
            due("none so", x.fit(1, 1, 2, 3, 1, 0, 0), 0);
            found(x, 1);
            x.clear();
            due("all", x.fit(1, 1, 2, 3, 1, 0, 0), 8);
            put(x, "50+");
            due("none so, behind one that found some", x.fit(1, 1, 2, 3, 1, 0, 0), 0);
            found(x, 1);
        });
    }
}
