/** Each sentence of part I and of promises 1 to 7, with the last value that is allowed and the first that is not. */
final class BoundsOfTexts extends Bounds {
    private static final String[] WORDS = {"step", "plane", "eye", "push", "speck", "source", "base"};
    private static final String[] ONES = {"step 1 2 3", "plane 1 2 3", "eye 1 2 3", "push 1 2", "speck 1 2 3", "source 1 2",
        "base 1 2"};

    static void all() {
        test("use", "An object is used for at most 512 calls after it has been made; what later calls answer is free.",
            BoundsOfTexts::lastCall);
        statements();
        numbersAndWords();
        faults();
        promises();
    }

    private static void lastCall() {
        SlidingFlaws x = of("source 50 0;base 0 0;push 1 999");
        // Five calls have fed and read the TEXT.
        for (int calls = 5; calls < 509; calls += 2) {
            x.run(9999, 200, 1);
            x.mark();
        }
        x.clear();
        due("at() as call 511", x.at(50), 0);
        due("put() as call 512", x.put(50, 1), true);
        x = new SlidingFlaws();
        for (int i = 0; i < 255; i++) {
            x.put(i % 100, 1);
            x.undo();
        }
        due("put() as call 511", x.put(99, 1), true);
        due("at() as call 512", x.at(99), 1);
    }

    // ---- the STATEMENTS

    private static void statements() {
        test("I", "A TEXT of at most 400 bytes:", () -> {
            reads("step 1 0 0" + " ".repeat(390), 1);
            reads(" ".repeat(390) + "step 1 0 0", 1);
            SlidingFlaws x = new SlidingFlaws();
            feedOnly(x, " ".repeat(389) + "step 1 0 0");
            due("end(399)", x.end(399), 399);
            due("a 400th byte and 19 more", x.feed(0x20202020, 0, 0, 0, 0), NONE);
            due("read() of 399 bytes", x.read(), 1);
            feedOnly(x, " ".repeat(390) + "step 1 0 0");
            due("a 401st byte", x.feed(0x20202020, 0, 0, 0, 0), NONE);
            due("read() of 400 bytes", x.read(), 1);
        });
        test("I", "STATEMENT { ; STATEMENT }, 40 at most.", BoundsOfTexts::forty);
        test("I", "STATEMENT: step X Y Z (-9 to 9 each, not all 0; 16 at most),", () -> ways("step", 0));
        test("I", "plane X Y Z (likewise; 16),", () -> ways("plane", 1));
        test("I", "eye X Y Z (likewise; 16),", () -> ways("eye", 2));
        test("I", "push D V (D 1 to 20, V 0 to 999: the PUSH between lines D apart; each D once),", BoundsOfTexts::pushes);
        test("I", "speck P LOW HIGH (P 0 to 99; LOW, HIGH 0 to 9999; 20 at most, each P once),", BoundsOfTexts::specks);
        test("I", "source P HOLD (P 1 to 98, HOLD 0 to 9999; 5 at most, each P once),", BoundsOfTexts::sources);
        test("I", "base LOW HIGH (0 to 9999; once).", () -> {
            for (String two : new String[] {"0 0", "0 9999", "9999 9999"}) {
                reads("base " + two, 1);
            }
            fault("base -1 0", 5, 1);
            fault("base 10000 10000", 5, 1);
            fault("base 0 -1", 7, 1);
            fault("base 0 10000", 7, 1);
            fault("base 9999 10000", 10, 1);
            fault("base 0 0;base 0 0", 9, 3);
            fault("base 0 0;step 1 0 0;base 1 1", 20, 3);
            SlidingFlaws x = of("base 0 9999");
            due("hold(0, 0)", x.hold(0, 0), 0);
            due("hold(0, 1)", x.hold(0, 1), 9999);
        });
    }

    /** A base, the twenty pushes, sixteen eyes and three steps: room for one short WORD is left. */
    private static String fortyStatements() {
        return "base 0 0" + pushText(20) + ";" + times(16, "eye 1 0 0") + ";" + times(3, "step 1 0 0");
    }

    private static String pushText(int many) {
        StringBuilder all = new StringBuilder();
        for (int d = 1; d <= many; d++) {
            all.append(";push ").append(d).append(" 0");
        }
        return all.toString();
    }

    private static void forty() {
        String forty = fortyStatements();
        reads(forty.substring(0, forty.length() - 11), 39);
        reads(forty, 40);
        reads(forty + " ", 40);
        int place = forty.length() + 1;
        for (String word : new String[] {"step", "plane", "push", "speck"}) {
            fault(forty + ";" + word, place, 4);
        }
        fault(forty + "; step", place + 1, 4);
        // Without the base: a base is told once, but a forty-first one.
        String others = pushText(20).substring(1) + ";" + times(16, "eye 1 0 0") + ";" + times(4, "step 1 0 0");
        reads(others, 40);
        fault(others + ";base", others.length() + 1, 4);
        // What stands between two of them, and beside them.
        reads("eye 1 0 0;eye 1 0 0", 2);
        fault("eye 1 0 0 eye 1 0 0", 10, 0);
        fault("eye 1 0 0,eye 1 0 0", 9, 0);
        fault("eye 1 0 0:eye 1 0 0", 9, 0);
        fault("eye 1 0 0;;eye 1 0 0", 10, 0);
        fault(";eye 1 0 0", 0, 0);
        fault("eye 1 0 0;", 10, 0);
        fault("eye 1 0 0; ", 11, 0);
        fault(forty + ";", place, 0);
    }

    private static void ways(String word, int what) {
        int at = word.length() + 1;
        for (int part = 0; part < 3; part++) {
            for (int value : new int[] {-9, 9}) {
                int[] three = {1, 1, 1};
                three[part] = value;
                SlidingFlaws x = of(word + " " + three[0] + " " + three[1] + " " + three[2]);
                due(word + ", part " + part, x.told(what, 0, part), value);
                due(word + ", the next part", x.told(what, 0, (part + 1) % 3), 1);
            }
            String ones = "1 ".repeat(part);
            for (String value : new String[] {"-10", "10", "-99", "99", "9999", "-9999", "100"}) {
                fault(word + " " + ones + value + " 1 1", at + 2 * part, 1);
            }
            for (int value : new int[] {-1, 1}) {
                int[] three = {0, 0, 0};
                three[part] = value;
                SlidingFlaws x = of(word + " " + three[0] + " " + three[1] + " " + three[2]);
                due(word + ", one part alone", x.told(what, 0, part), value);
            }
        }
        fault(word + " 0 0 0", at, 2);
        reads(times(15, word + " 1 0 0"), 15);
        SlidingFlaws x = of(times(15, word + " 1 0 0") + ";" + word + " 7 8 9");
        due("sixteen", x.count(what), 16);
        due("the sixteenth", x.told(what, 15, 2), 9);
        due("behind it", x.told(what, 16, 0), -100);
        String more = times(17, word + " 1 0 0");
        fault(more, 16 * (at + 6), 4);
        due("of seventeen none is read", tell(x, more) < 0 ? x.told(what, 15, 2) : 0, 9);
    }

    private static void pushes() {
        for (int d = 1; d <= 20; d++) {
            SlidingFlaws x = of("push " + d + " " + (d + 100));
            due("push(" + d + ")", x.push(d), d + 100);
            due("push(" + (d + 1) + ")", x.push(d + 1), 0);
            due("push(" + (d - 1) + ")", x.push(d - 1), 0);
            fault("push " + d + " 1;push " + d + " 1", d < 10 ? 14 : 15, 3);
        }
        for (String d : new String[] {"0", "-0", "21", "-1", "-20", "100", "9999"}) {
            fault("push " + d + " 1", 5, 1);
        }
        due("push 20 999", of("push 20 999").push(20), 999);
        due("push 20 0", of("push 20 0").push(20), 0);
        reads("push 1 0", 1);
        fault("push 1 -1", 7, 1);
        fault("push 1 1000", 7, 1);
        fault("push 20 9999", 8, 1);
        String twenty = pushText(20).substring(1);
        reads(twenty, 20);
        fault(twenty + ";push 20 0", twenty.length() + 6, 3);
        fault(twenty + ";push 21 0", twenty.length() + 6, 1);
        // What the PUSH does: lines of one sign d apart.
        SlidingFlaws x = of("push 20 7");
        put(x, "0+ 20+");
        due("feels 20 apart", x.feels(0, 0), -7);
    }

    private static String speckText(int from, int many) {
        StringBuilder all = new StringBuilder();
        for (int p = from; p < from + many; p++) {
            all.append(p > from ? ";" : "").append("speck ").append(p).append(" 1 2");
        }
        return all.toString();
    }

    private static void specks() {
        for (int p : new int[] {0, 1, 50, 98, 99}) {
            SlidingFlaws x = of("speck " + p + " 3 4");
            due("hold(" + p + ", 0)", x.hold(p, 0), 3);
            due("hold(" + p + ", 1)", x.hold(p, 1), 4);
            due("beside it", x.hold(p < 50 ? p + 1 : p - 1, 1), 0);
            fault("speck " + p + " 3 4;speck " + p + " 3 4", p < 10 ? 18 : 19, 3);
        }
        for (String p : new String[] {"-1", "100", "-99", "9999"}) {
            fault("speck " + p + " 1 2", 6, 1);
        }
        reads("speck 0 0 0", 1);
        reads("speck 0 0 9999", 1);
        reads("speck 0 9999 9999", 1);
        fault("speck 0 -1 0", 8, 1);
        fault("speck 0 10000 10000", 8, 1);
        fault("speck 0 0 -1", 10, 1);
        fault("speck 0 0 10000", 10, 1);
        reads(speckText(10, 19), 19);
        reads(speckText(10, 20), 20);
        fault(speckText(10, 20) + ";speck", 20 * 13, 4);
        fault(speckText(10, 20) + ";speck 9 1 2", 20 * 13, 4);
        fault(speckText(10, 20) + ";speck 10 1 2", 20 * 13, 4);
        fault(speckText(10, 19) + ";speck 28 1 2", 19 * 13 + 6, 3);
    }

    private static void sources() {
        for (int p : new int[] {1, 2, 50, 97, 98}) {
            reads("source " + p + " 5", 1);
            fault("source " + p + " 5;source " + p + " 6", p < 10 ? 18 : 19, 3);
        }
        for (String p : new String[] {"0", "-0", "99", "-1", "100", "9999"}) {
            fault("source " + p + " 5", 7, 1);
        }
        reads("source 1 0", 1);
        reads("source 1 9999", 1);
        fault("source 1 -1", 9, 1);
        fault("source 1 10000", 9, 1);
        String four = "source 11 1;source 22 1;source 33 1;source 44 1";
        reads(four, 4);
        reads(four + ";source 55 1", 5);
        fault(four + ";source 55 1;source", 60, 4);
        fault(four + ";source 55 1;source 66 1", 60, 4);
        fault(four + ";source 55 1;source 55 1", 60, 4);
        fault(four + ";source 44 1", 55, 3);
        // All five of them give.
        SlidingFlaws x = of(four + ";source 55 1;base 99 99");
        due("a tick", x.run(2, 1, 0), 1);
        same("what came", row(x), "10- 12+ 21- 23+ 32- 34+ 43- 45+ 54- 56+");
    }

    // ---- NUMBERS and WORDS

    private static void numbersAndWords() {
        test("I", "A NUMBER: perhaps -, and 1 to 4 digits (as far as digits go on; - stands right ahead of a digit: "
            + "what stands behind it else can't).", BoundsOfTexts::numbers);
        test("I", "WORDS are small letters, a blank (32) at least behind each WORD and between two NUMBERS, "
            + "blanks else as one likes.", BoundsOfTexts::wordsAndBlanks);
        test("I", "A TEXT of blanks alone has none.", () -> {
            for (int many : new int[] {0, 1, 2, 20, 399, 400}) {
                reads(" ".repeat(many), 0);
            }
            SlidingFlaws x = of("step 1 0 0;push 1 1;base 1 1");
            due("blanks", tell(x, "   "), 0);
            due("steps then", x.count(0), 0);
            due("push(1) then", x.push(1), 0);
            due("hold then", x.hold(0, 0), 0);
            x = of("step 1 0 0");
            due("an empty TAPE", x.read(), 0);
            due("steps then", x.count(0), 0);
            fault("\u0000", 0, 0);
            fault(" \n", 1, 0);
        });
    }

    private static void numbers() {
        for (String nine : new String[] {"9", "09", "009", "0009"}) {
            due(nine, of("step " + nine + " 0 0").told(0, 0, 0), 9);
            due("-" + nine, of("step 0 -" + nine + " 0").told(0, 0, 1), -9);
        }
        for (String many : new String[] {"00009", "00000", "000009", "0000000009", "10001", "99999", "4294967297",
            "9".repeat(19), "0".repeat(300)}) {
            fault("step " + many + " 0 1", 5, 1);
            fault("step -" + many + " 0 1", 5, 1);
            fault("step 1 " + many + " 1", 7, 1);
            fault("base 0 " + many, 7, 1);
        }
        due("four digits", of("base 1234 9876").hold(0, 1), 9876);
        due("four digits", of("base 1234 9876").hold(0, 0), 1234);
        due("three digits", of("push 3 987").push(3), 987);
        due("0", of("speck 0 7 8").hold(0, 0), 7);
        due("-0", of("speck -0 7 8").hold(0, 0), 7);
        due("-0000", of("speck -0000 7 8").hold(0, 0), 7);
        reads("base -0 -000", 1);
        fault("step - 1 0 0", 6, 0);
        fault("step -- 1 0 0", 6, 0);
        fault("step --1 0 0", 6, 0);
        fault("step -;", 6, 0);
        fault("step -x", 6, 0);
        fault("step -", 6, 0);
        fault("step 1 0 -", 10, 0);
        fault("step 1 0 -;", 10, 0);
        fault("step 1- 0 0", 6, 0);
        fault("step 1-1 0 0", 6, 0);
        fault("step 1 0 0-", 10, 0);
        fault("step +1 0 0", 5, 0);
        fault("step 1.0 0 0", 6, 0);
        for (int digit = 0; digit <= 9; digit++) {
            due("digit " + digit, of("step " + digit + " 1 0").told(0, 0, 0), digit);
            due("digit -" + digit, of("step -" + digit + " 1 0").told(0, 0, 0), -digit);
        }
    }

    private static boolean isLetter(int b) {
        return 'a' <= b && b <= 'z';
    }

    private static boolean isDigit(int b) {
        return '0' <= b && b <= '9';
    }

    private static void wordsAndBlanks() {
        for (int b = 0; b < 256; b++) {
            char sign = (char) b;
            // Behind a WORD, between two NUMBERS, behind the last one, and ahead of all.
            if (b == ' ') {
                reads("step" + sign + " 1 0 0", 1);
                reads("step" + sign + "1 0 0", 1);
                reads("step 1" + sign + "1 0", 1);
                reads("step 1 0 0" + sign, 1);
                reads(sign + "step 1 0 0", 1);
                reads("step 1 0 0;" + sign + "step 1 0 0", 2);
                continue;
            }
            fault("step" + sign + " 1 0 0", isLetter(b) ? 0 : 4, 0);
            fault("step" + sign + "1 0 0", isLetter(b) ? 0 : 4, 0);
            fault("step 1" + sign + "1 0 0", isDigit(b) ? 5 : 6, isDigit(b) ? 1 : 0);
            fault(sign + "step 1 0 0", 0, 0);
            fault("step 1 0 0;" + sign + "step 1 0 0", 11, 0);
            fault(sign + "", 0, 0);
            if (!isDigit(b)) {
                fault("step 1 0 0" + sign, b == ';' ? 11 : 10, 0);
                fault("step 1 0 0 " + sign, b == ';' ? 12 : 11, 0);
            }
        }
        for (int i = 0; i < WORDS.length; i++) {
            String word = WORDS[i];
            String behind = ONES[i].substring(word.length());
            reads(word + behind, 1);
            reads(" " + word + behind.replace(" ", "    ") + "  ", 1);
            fault(word.toUpperCase() + behind, 0, 0);
            fault(word.substring(0, 1).toUpperCase() + word.substring(1) + behind, 0, 0);
            fault(word.substring(1) + behind, 0, 0);
            fault(word.substring(0, word.length() - 1) + behind, 0, 0);
            fault(word + word.charAt(word.length() - 1) + behind, 0, 0);
            fault(word + behind.substring(1), word.length(), 0);
            fault(word + " " + behind.substring(1).replace(" ", ";"), word.length() + 2, 0);
            for (int letter = 0; letter < word.length(); letter++) {
                String other = word.substring(0, letter) + (char) (word.charAt(letter) + 1) + word.substring(letter + 1);
                fault(other + behind, 0, 0);
                fault("base 0 0;" + other + behind, 9, 0);
            }
        }
        reads("step 1 0 0;step 1 0 0", 2);
        reads("  step 1 0 0  ;  step 1 0 0  ", 2);
        reads("step" + " ".repeat(130) + "1" + " ".repeat(130) + "0" + " ".repeat(133) + "0", 1);
    }

    // ---- FAULTS

    private static void faults() {
        test("I", "FAULTS, the first along the text, 1 + 8 * its place and:", BoundsOfTexts::placesOfFaults);
        test("I", "0 a byte or WORD that can't stand there, or the end (behind the last byte);", BoundsOfTexts::ends);
        test("I", "1 a NUMBER of more digits, or out of its bounds (at its first byte);", () -> {
            fault("step 1   12345 0", 9, 1);
            fault("step 1   -12345 0", 9, 1);
            fault("step 1   -10 0", 9, 1);
            fault("step 1   10 0", 9, 1);
            fault("step 1 10", 7, 1);
            fault("step 1 10x", 7, 1);
            fault("push   21", 7, 1);
            fault("push   00001", 7, 1);
            reads("push   0001 0009", 1);
        });
        test("I", "2 X Y Z all 0 (at X), or HIGH below LOW (at HIGH);", () -> {
            fault("step   0 0 0", 7, 2);
            fault("plane  -0 000 -0000", 7, 2);
            fault("eye 0 0 0;x", 4, 2);
            reads("step 0 0 -1", 1);
            reads("plane 0 1 0", 1);
            reads("eye -1 0 0", 1);
            for (String word : new String[] {"base ", "speck 7 "}) {
                int at = word.length();
                reads(word + "0 0", 1);
                reads(word + "5 5", 1);
                reads(word + "5 6", 1);
                fault(word + "5 4", at + 2, 2);
                fault(word + "5   4", at + 4, 2);
                fault(word + "1 0", at + 2, 2);
                fault(word + "1 -0", at + 2, 2);
                fault(word + "9999 9998", at + 5, 2);
                fault(word + "9999 0", at + 5, 2);
            }
        });
        test("I", "3 told twice (at its first NUMBER; of base at the WORD);", () -> {
            fault("push 5 1;push   5 2", 16, 3);
            fault("push 5 1;push 05 2", 14, 3);
            fault("push 5 1;push 0005", 14, 3);
            fault("push 5 1;push 6 1;push 5", 23, 3);
            fault("speck 0 1 1;speck -0 1 1", 18, 3);
            fault("speck 99 1 1;step 1 0 0;speck 99", 30, 3);
            fault("source 5 1;source   5 1", 20, 3);
            fault("base 1 1;  base 1 1", 11, 3);
            fault("base 1 1;base", 9, 3);
            fault("base 1 1;base;", 9, 3);
            fault("base 1 1;base2 1", 9, 3);
            fault("base 1 1;bas", 9, 0);
            reads("push 5 1;push 6 1;speck 5 1 1;source 5 1;base 5 5;speck 6 1 1;source 6 1", 7);
        });
        test("I", "4 too many of its sort, or a forty-first STATEMENT (at the WORD).", () -> {
            fault(times(16, "step 1 0 0") + ";  step 1 0 0", 16 * 11 + 2, 4);
            fault(times(16, "plane 1 0 0") + ";plane", 16 * 12, 4);
            fault(times(16, "eye 1 0 0") + ";eye0", 16 * 10, 4);
            fault(times(16, "eye 1 0 0") + ";eye 0 0 0", 16 * 10, 4);
            fault(times(16, "eye 1 0 0") + ";step 1 0 0;eye", 16 * 10 + 11, 4);
            reads(times(16, "eye 1 0 0") + ";step 1 0 0;plane 1 0 0", 18);
            // How many of its sort were told by TEXTS before is of no matter, nor how many STATEMENTS.
            String[] full = {speckText(10, 20) + ";source 11 1;source 22 1;source 33 1;source 44 1;source 55 1;base 1 1",
                times(16, "step 1 0 0") + ";" + times(16, "plane 1 0 0"), fortyStatements()};
            int[] statements = {26, 32, 40};
            for (int i = 0; i < full.length; i++) {
                SlidingFlaws x = new SlidingFlaws();
                for (int turn = 0; turn < 5; turn++) {
                    due("full again, turn " + turn, tell(x, full[i]), statements[i]);
                }
                due("full, and refused", tell(x, full[i] + ";q"), -2 - (1 + 8 * (full[i].length() + 1)));
                due("full again", tell(x, full[i]), statements[i]);
                due("full again", tell(x, full[i]), statements[i]);
            }
            fault(fortyStatements() + ";eye", fortyStatements().length() + 1, 4);
            fault(fortyStatements() + ";push", fortyStatements().length() + 1, 4);
        });
        test("I", "Of one place the least.", () -> {
            String forty = fortyStatements();
            // A WORD that can't stand there, a base told twice, a sort with too many: each as the forty-first, too.
            fault(forty + ";ste", forty.length() + 1, 0);
            fault(forty + ";base", forty.length() + 1, 3);
            fault("push 5 1;push 00005 1", 14, 1);
            fault("speck 7 1 1;speck 00007 1 1", 18, 1);
            fault("base 5 00001", 7, 1);
            fault("base 5 -1", 7, 1);
            fault("step 00000 0 0", 5, 1);
            fault("step 00000 00000 00000", 5, 1);
        });
        test("I", "Read, it takes the place of what was read before: STEPS, PLANES, EYES by numbers as they stand;", () -> {
            SlidingFlaws x = of("step 1 0 0;plane 2 0 0;step 3 0 0;eye 4 0 0;plane 5 0 0;step 6 0 0;step 3 0 0");
            int[][] due = {{0, 0, 1}, {0, 1, 3}, {0, 2, 6}, {0, 3, 3}, {1, 0, 2}, {1, 1, 5}, {2, 0, 4}};
            for (int[] d : due) {
                due("told(" + d[0] + ", " + d[1] + ", 0)", x.told(d[0], d[1], 0), d[2]);
            }
            due("a new text", tell(x, "plane 9 0 0"), 1);
            due("steps", x.count(0), 0);
            due("planes", x.count(1), 1);
            due("eyes", x.count(2), 0);
            due("told(0, 0, 0)", x.told(0, 0, 0), -100);
            due("told(1, 0, 0)", x.told(1, 0, 0), 9);
            due("told(1, 1, 0)", x.told(1, 1, 0), -100);
            due("one more", tell(x, "step 8 0 0"), 1);
            due("told(0, 0, 0)", x.told(0, 0, 0), 8);
            due("told(0, 1, 0)", x.told(0, 1, 0), -100);
            due("planes", x.count(1), 0);
            // A speck at either rim, which the next TEXT but one does not tell.
            x = new SlidingFlaws();
            for (int turn = 0; turn < 4; turn++) {
                due("specks", tell(x, "speck 0 7 7;speck 99 8 8;base 1 1"), 3);
                due("specks", tell(x, "speck 99 8 8;speck 0 7 7;base 2 2"), 3);
                due("hold(0, 0)", x.hold(0, 0), 7);
                due("none", tell(x, "base 3 3"), 1);
                due("none", tell(x, "base 4 4"), 1);
                due("hold(0, 0)", x.hold(0, 0), 4);
                due("hold(99, 1)", x.hold(99, 1), 4);
            }
            // However many were read or refused before: nothing of them is told.
            x = new SlidingFlaws();
            String full = "step 1 0 0;plane 1 0 0;eye 1 0 0;push 1 9;speck 5 7 8;source 50 9;base 3 4";
            for (int turn = 0; turn < 6; turn++) {
                due("read, turn " + turn, tell(x, full), 7);
                due("all of it", x.count(0) * 100 + x.count(1) * 10 + x.count(2), 111);
                due("push(1), hold(5, 0), hold(6, 1)", x.push(1) * 100 + x.hold(5, 0) * 10 + x.hold(6, 1), 974);
                if (turn % 2 == 0) {
                    due("refused", tell(x, full.replace("1 0 0", "2 0 0") + ";speck 6 1 1;push 2 2;source 60 1;q") < -2, true);
                }
                due("read, with nothing of these", tell(x, "eye 0 0 1"), 1);
                due("none of it", x.count(0) * 100 + x.count(1) * 10 + x.count(2), 1);
                due("told(2, 0, 0)", x.told(2, 0, 0), 0);
                due("push(1), push(2)", x.push(1) + x.push(2), 0);
                due("hold(5, 1), hold(6, 1)", x.hold(5, 1) + x.hold(6, 1), 0);
                due("no source", x.run(9999, 9, 0), 0);
            }
        });
        test("I", "PUSHES 0 where none is told; the base HOLD 0 to 0 without one.", () -> {
            SlidingFlaws x = new SlidingFlaws();
            String[] texts = {"push 1 9;base 7 8", "", "push 2 9", "base 1 2", "step 1 0 0", "push 1 5;speck 3 1 1"};
            int[][] due = {{9, 0, 7, 8}, {0, 0, 0, 0}, {0, 9, 0, 0}, {0, 0, 1, 2}, {0, 0, 0, 0}, {5, 0, 0, 0}};
            for (int turn = 0; turn < 3; turn++) {
                for (int t = 0; t < texts.length; t++) {
                    tell(x, texts[t]);
                    int[] got = {x.push(1), x.push(2), x.hold(9, 0), x.hold(9, 1)};
                    for (int i = 0; i < 4; i++) {
                        due("of \"" + texts[t] + "\", " + i, got[i], due[t][i]);
                    }
                }
            }
        });
        test("I", "PUSHES 0 where none is told; the base HOLD 0 to 0 without one.", () -> {
            SlidingFlaws x = of("push 1 9;push 20 9;base 7 8;speck 3 5 6;source 50 0");
            due("a new text", tell(x, "push 2 4"), 1);
            due("push(1)", x.push(1), 0);
            due("push(2)", x.push(2), 4);
            due("push(20)", x.push(20), 0);
            for (int place : new int[] {0, 3, 50, 99}) {
                due("hold(" + place + ", 0)", x.hold(place, 0), 0);
                due("hold(" + place + ", 1)", x.hold(place, 1), 0);
            }
            due("no source is left", x.run(1, 5, 0), 0);
            put(x, "10+");
            due("above a base of 0 to 0", x.run(1, 1, 1), 1);
            due("not above it", x.run(0, 1, 1), 0);
        });
        test("I", "What is on the ROW (III) and the KNOTS and LINES (II) stay.", () -> {
            SlidingFlaws x = of("step 1 0 0");
            put(x, "0+ 50- 99+");
            x.knot(false);
            x.knot(true);
            x.line(0, 1, 1, 2, 3);
            due("a new text", tell(x, "plane 1 0 0;base 5 5"), 2);
            same("the row", row(x), "0+ 50- 99+");
            due("knots", x.count(3), 2);
            due("lines", x.count(4), 1);
            due("sum(0, 2)", x.sum(0, 2), 3);
            due("unsound()", x.unsound(), 0);
            due("acts", x.count(14), 3);
        });
    }

    private static void placesOfFaults() {
        due("place 0", tell(new SlidingFlaws(), "q"), -3);
        due("place 1", tell(new SlidingFlaws(), " q"), -11);
        due("place 1, at the end", tell(new SlidingFlaws(), " ;"), -11);
        String last = " ".repeat(399);
        fault(last + "q", 399, 0);
        fault(last + ";", 399, 0);
        due("place 399", tell(new SlidingFlaws(), last + "q"), -2 - 3193);
        String room = " ".repeat(400 - 10) + "step 1 0 ";
        fault(room + "x", 399, 0);
        fault(" ".repeat(400 - 9) + "step 1 0 ", 400, 0);
        fault(" ".repeat(400 - 8) + "step 1 0", 400, 0);
        due("the end of 400", tell(new SlidingFlaws(), last + "s"), -2 - 3193);
        due("behind all 400", tell(new SlidingFlaws(), " ".repeat(396) + "step"), -2 - 3201);
        fault(" ".repeat(400 - 8) + "push 1 -", 400, 0);
        fault(" ".repeat(400 - 6) + "push 0", 399, 1);
        fault(" ".repeat(400 - 8) + "base 5 4", 399, 2);
        fault("push 5 1;" + " ".repeat(400 - 15) + "push 5", 399, 3);
        fault("base 5 5;" + " ".repeat(400 - 13) + "base", 396, 3);
        String eyes = times(16, "eye 1 0 0") + ";";
        fault(eyes + " ".repeat(397 - eyes.length()) + "eye", 397, 4);
        reads(" ".repeat(400 - 10) + "step 1 0 0", 1);
        // Of several the first along the text, whatever it is.
        fault("q;step 10 0 0", 0, 0);
        fault("step 10 0 0;q", 5, 1);
        fault("step 0 0 0;q", 5, 2);
        fault("step 0 0 q", 9, 0);
        fault("step 0 10 0", 7, 1);
        fault("step 10 10 0", 5, 1);
        fault("speck 1 5 4;q", 10, 2);
        fault("push 5 1;push 5 1000", 14, 3);
        fault("push 5 1000;push 5 1000", 7, 1);
        fault("base 1 1;base 10000 0", 9, 3);
        fault(times(17, "step 1 0 0") + ";q", 16 * 11, 4);
        fault("q;" + times(17, "step 1 0 0"), 0, 0);
        fault("speck 100 5 4", 6, 1);
    }

    private static void ends() {
        // Of one STATEMENT of each sort all that it begins with: what fails is the cut WORD, or the end.
        for (int i = 0; i < ONES.length; i++) {
            String one = ONES[i];
            int word = WORDS[i].length();
            for (int n = 1; n < one.length(); n++) {
                fault(one.substring(0, n), n < word ? 0 : n, 0);
                fault(one.substring(0, n) + ";", n < word ? 0 : n, 0);
                fault("base 0 0;" + one.substring(0, n), i == 6 ? n < word ? 9 : 9 : n < word ? 9 : 9 + n,
                    i == 6 && n >= word ? 3 : 0);
            }
            fault(one + " 4", one.length() + 1, 0);
            fault(one + " -", one.length() + 1, 0);
            fault(one + " x", one.length() + 1, 0);
            fault(one + "x", one.length(), 0);
            fault(one + ";", one.length() + 1, 0);
            fault(one + "  ;  ", one.length() + 5, 0);
            fault(WORDS[i] + " x", word + 1, 0);
            fault("x" + one, 0, 0);
        }
        fault("step 1 0 0 12345", 11, 0);
        fault("push 1 1 1000", 9, 0);
        fault("stepx 1 0 0", 0, 0);
        fault("stepplane 1 0 0", 0, 0);
        fault("1 0 0", 0, 0);
        fault("-", 0, 0);
    }

    // ---- promises 1 to 7

    private static void promises() {
        test("1", "Nothing told; an empty ROW.", () -> {
            SlidingFlaws x = new SlidingFlaws();
            for (int what = 0; what <= 14; what++) {
                due("count(" + what + ")", x.count(what), 0);
            }
            same("the row", row(x), "");
            for (int what = 0; what <= 2; what++) {
                due("told(" + what + ", 0, 0)", x.told(what, 0, 0), -100);
            }
            for (int d = 1; d <= 20; d++) {
                due("push(" + d + ")", x.push(d), 0);
            }
            for (int place = 0; place < 100; place++) {
                due("hold(" + place + ")", x.hold(place, 0) + x.hold(place, 1), 0);
            }
            due("lines(0, 0)", x.lines(0, 0), -1000);
            due("sum(0, 0)", x.sum(0, 0), -100000);
            due("unsound()", x.unsound(), NONE);
            due("group(0)", x.group(0), NONE);
            due("aimed(0)", x.aimed(0), NONE);
            due("fitted(0, 0)", x.fitted(0, 0), NONE);
            due("readBack(NONE)", x.readBack(NONE), 0);
            due("readBack(0)", x.readBack(0), NONE);
            due("nextEye()", x.nextEye(), NONE);
            due("first()", x.first(1, 0, 0, NONE), 0);
            due("systems(0, 0)", x.systems(0, 0), -1000000);
            due("strain()", x.strain(1, 0, 0), 0);
            due("curved(0)", x.curved(0), -1000000000000000L);
            due("form(0, 0)", x.form(0, 0), 0);
            due("wall(0)", x.wall(0), 0);
            due("tilt(0, 0)", x.tilt(0, 0), 0);
            due("undo()", x.undo(), false);
            due("redo()", x.redo(), false);
            due("shield(0)", x.shield(0), 0);
            due("run()", x.run(9999, 200, 0), 0);
            due("NONE", SlidingFlaws.NONE, -1);
            // Whatever is told of another one, made before it or behind it.
            SlidingFlaws y = of("step 1 0 0;plane 0 0 1;eye 1 0 0;push 1 9;base 3 4");
            put(y, "10+ 99-");
            y.mark();
            y.knot(false);
            y.system(0, 0);
            y.sight(0, true);
            y.aim(1, 9, 0, 0, 0, 1, 1);
            SlidingFlaws z = new SlidingFlaws();
            for (SlidingFlaws one : new SlidingFlaws[] {x, z}) {
                due("flaws", one.count(5), 0);
                due("back()", one.back(), 0);
                due("push(1)", one.push(1), 0);
                due("steps, knots, systems, sights", one.count(0) + one.count(3) + one.count(13) + one.count(12), 0);
                due("aimed(0)", one.aimed(0), NONE);
            }
            tell(z, "push 1 7");
            z.clear();
            due("the other's push", y.push(1), 9);
            due("the other's flaws", y.count(5), 2);
        });
        test("VII", "The constants: `NONE = -1`: None.", () -> due("NONE", SlidingFlaws.NONE, -1));
        test("2", "Twenty bytes come behind the TAPE, of each number the highest first: how many it has;", BoundsOfTexts::bytes);
        test("2", "NONE, and none comes, if it would have more than 400.", BoundsOfTexts::fullTape);
        test("3", "The TAPE has its first n bytes alone: n;", () -> {
            SlidingFlaws x = new SlidingFlaws();
            due("end(0) of none", x.end(0), 0);
            feedOnly(x, "step 1 2 3;step 4 5 6");
            due("bytes", x.count(11), 40);
            due("end(40) of 40", x.end(40), 40);
            due("end(39) of 40", x.end(39), 39);
            due("bytes", x.count(11), 39);
            due("end(21)", x.end(21), 21);
            due("end(20)", x.end(20), 20);
            due("read()", x.read(), -2 - (1 + 8 * 20));
            feedOnly(x, "step 1 2 3;step 4 5 6");
            due("end(10)", x.end(10), 10);
            due("read() of 10", x.read(), 1);
            feedOnly(x, "step 1 2 3");
            due("end(0)", x.end(0), 0);
            due("bytes", x.count(11), 0);
            due("read() of none", x.read(), 0);
            due("end(0) behind reading", x.end(0), 0);
            due("end(1) behind reading", x.end(1), NONE);
            // What comes then stands behind the bytes that are left.
            feedOnly(x, "step 1 2 3;step");
            x.end(11);
            feedOnly(x, "plane 4 5 6");
            x.end(22);
            due("read() of both", x.read(), 2);
            due("told(1, 0, 2)", x.told(1, 0, 2), 6);
            for (int i = 0; i < 20; i++) {
                x.feed(0x20202020, 0x20202020, 0x20202020, 0x20202020, 0x20202020);
            }
            due("end(400) of 400", x.end(400), 400);
            due("end(401) of 400", x.end(401), NONE);
            due("end(399) of 400", x.end(399), 399);
            due("end(400) of 399", x.end(400), NONE);
        });
        test("3", "NONE, and nothing happens, if it has not so many, or n is below 0.", () -> {
            SlidingFlaws x = new SlidingFlaws();
            due("end(1) of none", x.end(1), NONE);
            feedOnly(x, "step 1 2 3;step 4 5 6".substring(0, 20));
            for (int n : new int[] {21, 22, 400, 401, MAX, -1, -2, -20, MIN}) {
                due("end(" + n + ") of 20", x.end(n), NONE);
                due("bytes", x.count(11), 20);
            }
            due("the TEXT is as it was", x.read(), -2 - (1 + 8 * 20));
            feedOnly(x, "step 1 2 3;eye 1 2 3");
            x.end(-1);
            x.end(21);
            due("the TEXT is as it was", x.read(), 2);
        });
        test("4", "The TAPE, which is empty then, is read: how many STATEMENTS;", () -> {
            SlidingFlaws x = new SlidingFlaws();
            due("read() of nothing", x.read(), 0);
            due("one", tell(x, "step 1 0 0"), 1);
            due("bytes then", x.count(11), 0);
            due("read() again", x.read(), 0);
            due("steps then", x.count(0), 0);
            due("forty", tell(x, fortyStatements()), 40);
            due("bytes then", x.count(11), 0);
            due("steps", x.count(0), 3);
            due("eyes", x.count(2), 16);
        });
        test("4", "-2 - its FAULT, and what was read before stays.", () -> {
            String before = "step 1 2 3;plane 3 0 -1;eye 1 1 1;push 1 9;push 20 8;speck 5 6 7;source 50 9;base 3 4";
            String[] bad = {"q", "step 9 9 9;push 1 1000", "plane 0 0 0", "base 0 0;base 0 0",
                "push 1 5;push 1 5", times(17, "eye 2 2 2"), "speck 5 1 1;source 1 1;push 2 2;base 9 9;", fortyStatements() + ";eye"};
            for (String text : bad) {
                SlidingFlaws x = of(before);
                x.sight(0, true);
                due("refused", tell(x, text) <= -3, true);
                due("bytes", x.count(11), 0);
                due("steps", x.count(0) * 100 + x.count(1) * 10 + x.count(2), 111);
                due("told(0, 0, 2)", x.told(0, 0, 2), 3);
                due("told(1, 0, 2)", x.told(1, 0, 2), -1);
                due("told(2, 0, 2)", x.told(2, 0, 2), 1);
                due("push(1)", x.push(1), 9);
                due("push(2)", x.push(2), 0);
                due("push(20)", x.push(20), 8);
                due("hold(5, 1)", x.hold(5, 1), 7);
                due("hold(4, 0)", x.hold(4, 0), 3);
                due("hold(4, 1)", x.hold(4, 1), 4);
                due("sights", x.count(12), 1);
                due("not above the source's hold", x.run(9, 1, 0), 0);
                due("above it", x.run(10, 1, 0), 1);
                same("what came", row(x), "49- 51+");
            }
            // A fault, then a TEXT that is read, and a fault again.
            SlidingFlaws x = of("step 1 0 0");
            due("refused", tell(x, "step 2 0 0;q"), -2 - (1 + 8 * 11));
            due("read", tell(x, "step 3 0 0;step 4 0 0"), 2);
            due("refused", tell(x, "step 5 0 0;q"), -2 - (1 + 8 * 11));
            due("told(0, 0, 0)", x.told(0, 0, 0), 3);
            due("told(0, 1, 0)", x.told(0, 1, 0), 4);
            due("told(0, 2, 0)", x.told(0, 2, 0), -100);
        });
        test("4", "SIGHTS go, if it is read.", () -> {
            SlidingFlaws x = of("step 1 0 0;eye 1 0 0");
            for (int i = 0; i < 20; i++) {
                x.sight(0, false);
            }
            due("sights", x.count(12), 20);
            due("a fault", tell(x, "step 1 0 0;eye 1 0 0;"), -2 - (1 + 8 * 21));
            due("sights", x.count(12), 20);
            due("read back", x.readBack(NONE), 0);
            due("read", tell(x, "step 1 0 0;eye 1 0 0"), 2);
            due("sights", x.count(12), 0);
            due("read back", x.readBack(NONE), 1);
            x.sight(0, false);
            due("an empty TEXT is read", x.read(), 0);
            due("sights", x.count(12), 0);
        });
        test("5", "What 0 STEP, 1 PLANE, 2 EYE, number k, part 0 x, 1 y, 2 z;", () -> {
            SlidingFlaws x = of("step 1 2 3;step 4 5 6;plane -1 -2 -3;plane -4 -5 -6;eye 7 8 9;eye -7 -8 -9");
            int[][][] due = {{{1, 2, 3}, {4, 5, 6}}, {{-1, -2, -3}, {-4, -5, -6}}, {{7, 8, 9}, {-7, -8, -9}}};
            for (int what = 0; what < 3; what++) {
                for (int k = 0; k < 2; k++) {
                    for (int part = 0; part < 3; part++) {
                        due("told(" + what + ", " + k + ", " + part + ")", x.told(what, k, part), due[what][k][part]);
                    }
                }
            }
        });
        test("5", "-100 without it.", () -> {
            SlidingFlaws x = of("step 1 2 3;plane 1 2 3;plane 4 5 6;eye 1 2 3;eye 4 5 6;eye 7 8 9");
            for (int bad : new int[] {-1, 3, 4, MIN, MAX, -2}) {
                due("told(" + bad + ", 0, 0)", x.told(bad, 0, 0), -100);
                due("told(0, 0, " + bad + ")", x.told(0, 0, bad), -100);
                for (int what = 0; what < 3; what++) {
                    due("told(" + what + ", " + bad + ", 0)", x.told(what, bad, 0), -100);
                }
            }
            for (int what = 0; what < 3; what++) {
                due("the last", x.told(what, what, 0) > 0, true);
                due("behind the last", x.told(what, what + 1, 0), -100);
            }
        });
        test("6", "PUSH at a distance; 0 for others.", () -> {
            SlidingFlaws x = of(pushText(20).substring(1).replace(" 0", " 999"));
            for (int d = -2; d <= 22; d++) {
                due("push(" + d + ")", x.push(d), d >= 1 && d <= 20 ? d == 10 || d == 20 ? 999 : 999 : 0);
            }
            for (int d : new int[] {MIN, MAX, -20, 100, 65537}) {
                due("push(" + d + ")", x.push(d), 0);
            }
        });
        test("7", "HOLD at a place of the ROW by LOW (side 0) or HIGH (1);", () -> {
            SlidingFlaws x = of("speck 0 1 2;base 3 4;speck 99 5 6");
            due("hold(0, 0)", x.hold(0, 0), 1);
            due("hold(0, 1)", x.hold(0, 1), 2);
            due("hold(1, 0)", x.hold(1, 0), 3);
            due("hold(98, 1)", x.hold(98, 1), 4);
            due("hold(99, 0)", x.hold(99, 0), 5);
            due("hold(99, 1)", x.hold(99, 1), 6);
        });
        test("7", "NONE without these.", () -> {
            SlidingFlaws x = of("base 3 4");
            for (int bad : new int[] {-1, 100, 101, MIN, MAX}) {
                due("hold(" + bad + ", 0)", x.hold(bad, 0), NONE);
            }
            for (int bad : new int[] {-1, 2, 3, MIN, MAX}) {
                due("hold(0, " + bad + ")", x.hold(0, bad), NONE);
            }
        });
    }

    private static void bytes() {
        SlidingFlaws x = new SlidingFlaws();
        for (int i = 1; i <= 20; i++) {
            due("feed", x.feed(MIN, MAX, -1, 0, 1), 20 * i);
        }
        // Each of the twenty in its place: a byte that can't stand there among blanks.
        for (int place = 0; place < 20; place++) {
            for (int b : new int[] {0, 1, 31, 33, 127, 128, 160, 255}) {
                fault(" ".repeat(place) + (char) b + " ".repeat(19 - place), place, 0);
            }
        }
        x = new SlidingFlaws();
        x.feed(0x73746570, 0x20312032, 0x20333b65, 0x79652034, 0x20352036);
        due("read()", x.read(), 2);
        for (int i = 0; i < 3; i++) {
            due("told(0, 0, " + i + ")", x.told(0, 0, i), i + 1);
            due("told(2, 0, " + i + ")", x.told(2, 0, i), i + 4);
        }
        // No letter is one with its highest bit set.
        x.feed(0xf3f4e5f0, 0x20312032, 0x20332020, 0x20202020, 0x20202020);
        due("read() of bytes above 127", x.read(), -3);
        x.feed(0x73746570, 0xa0312032, 0x20332020, 0x20202020, 0x20202020);
        due("160 is no blank", x.read(), -2 - (1 + 8 * 4));
    }

    private static void fullTape() {
        for (int had : new int[] {0, 1, 360, 379, 380, 381, 382, 390, 399, 400}) {
            SlidingFlaws x = new SlidingFlaws();
            for (int i = 0; i < 20; i++) {
                x.feed(0x20202020, 0x20202020, 0x20202020, 0x20202020, 0x20202020);
            }
            x.end(had);
            boolean fits = had <= 380;
            due("feed() with " + had, x.feed(0x71202020, 0, 0, 0, 0), fits ? had + 20 : NONE);
            due("bytes", x.count(11), fits ? had + 20 : had);
            due("read()", x.read(), fits ? -2 - (1 + 8 * had) : 0);
            due("bytes", x.count(11), 0);
            due("feed() then", x.feed(0, 0, 0, 0, 0), 20);
        }
        SlidingFlaws x = new SlidingFlaws();
        for (int i = 0; i < 20; i++) {
            x.feed(0, 0, 0, 0, 0);
        }
        due("a twenty-first", x.feed(0, 0, 0, 0, 0), NONE);
        due("again", x.feed(MAX, MIN, -1, -1, -1), NONE);
        due("bytes", x.count(11), 400);
    }
}
