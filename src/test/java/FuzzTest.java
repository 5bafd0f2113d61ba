import java.lang.reflect.InvocationTargetException;
import java.lang.reflect.Method;
import java.util.ArrayList;
import java.util.List;

/** Long runs of calls by rote, each answer compared with the Oracle's. */
public final class FuzzTest {
    private long seed;
    private final StringBuilder log = new StringBuilder();
    private SlidingFlaws flaws;
    private Oracle oracle;
    private int wrong = 0;
    private int calls = 0;
    // Of the object that is asked now: what it answers behind its 512th call is free.
    private int made = 0;

    // One letter for each argument: what sort of value it takes (see value()).
    private static final String[] KINDS = {
        "told w k p", "push d", "hold P s", "knot b", "line K K g g g", "lines L 6", "sum K p", "unsound",
        "meet L L", "part L k b", "least K m", "group 8", "share v v v k k s", "slides v v v k k F F",
        "first v v v n", "put P S", "at P", "feels P Q", "clear", "mark", "back", "run Q T s", "sure Q T",
        "shape k k p p", "aim 4 q q q q t a", "aimed 4", "fit 3 d d d u q T", "fitted n 3", "seen L k", "sight k b",
        "forget", "readBack n", "nextEye", "system k k", "harder h h", "fill y P S", "systems y W",
        "pulled v v v F y", "load v v v F T s", "strain v v v", "curve v v v F B t t", "curved n", "form p p",
        "wall P", "tilt P p", "undo", "redo", "shield l", "crack l Q f f", "runsTo l Q f h", "count c"
    };
    // What a run is mostly about: all, the web, the grain, or the row.
    private static final String[] FOCUS = {"",
        " line lines sum unsound meet part least group seen count sight readBack nextEye ",
        " system harder fill systems pulled load strain curve curved form wall tilt count share slides first ",
        " put at feels clear mark back run sure shape aim aimed fit fitted undo redo shield crack runsTo count "};
    // A text is told by 24 calls at most, the asking for its bytes among them.
    private static final int LAST_CALL = 512 - 24;
    private static final int[] WILD = {-1, 0, 1, 2, 3, -2, 9, 10, -9, -10, 19, 20, 21, 29, 30, 31, 50, 51, 59, 60, 61,
        98, 99, 100, -99, -100, 101, 120, 119, 200, 201, 199, 400, 998, 999, 1000, 1001, -1000, -1001, 9999, 10000, -9999,
        -10000, Integer.MAX_VALUE, Integer.MIN_VALUE, Integer.MAX_VALUE - 1, Integer.MIN_VALUE + 1, 65536, -65536};

    private FuzzTest(long seed) {
        this.seed = seed * 7919 + 17;
    }

    private int below(int n) {
        seed = seed * 6364136223846793005L + 1442695040888963407L;
        return (int) ((seed >>> 33) % n);
    }

    private int from(int low, int high) {
        return low + below(high - low + 1);
    }

    private int value(char kind) {
        if (below(40) == 0) {
            return below(4) == 0 ? (int) (seed >> 13) : WILD[below(WILD.length)];
        }
        switch (kind) {
            case 'w': return from(0, 2);
            case 'k': return below(9) > 0 ? from(0, 3) : from(-1, 16);
            case 'p': return from(0, 2);
            case 'd': return below(3) > 0 ? from(1, 4) : from(0, 21);
            case 'P': return below(8) == 0 ? from(0, 99) : below(8) == 0 ? 99 * below(2) : near;
            case 's': return below(2);
            case 'b': return below(2);
            case 'K': return below(3) > 0 || focus == 1 ? below(2) : from(0, 5);
            case 'g': return focus == 1 && below(3) > 0 ? from(-1, 2) : below(4) > 0 ? from(-2, 2) : below(3) > 0 ? from(-9, 9) : from(-99, 99);
            case 'L': return below(2) > 0 && focus == 1 ? Math.max(0, told - below(12)) : from(0, 9);
            case '6': return from(0, 5);
            case '8': return from(0, 8);
            case 'v': return below(2) > 0 ? from(-1, 1) : from(-9, 9);
            case 'F': return below(2) > 0 ? from(0, 120) : from(0, 9999);
            case 'f': return from(0, 60);
            case 'n': return below(3) > 0 ? NONE() : from(0, 5);
            case 'S': return below(10) == 0 ? from(-2, 2) : below(2) * 2 - 1;
            case 'Q': return below(3) > 0 ? from(-40, 40) : below(2) > 0 ? 0 : from(-9999, 9999);
            case 'q': return below(5) > 0 ? from(-40, 40) : from(-9999, 9999);
            case 'T': return below(3) > 0 ? from(0, 6) : from(0, 200);
            case 't': return from(1, 4);
            case '4': return from(1, 4);
            case '3': return from(0, 3);
            case 'a': return below(3) > 0 ? from(-12, 12) : from(-60, 60);
            case 'u': return from(1, 12);
            case 'h': return below(2) > 0 ? from(0, 30) : from(0, 999);
            case 'y': return from(0, 4);
            case 'W': return below(2) > 0 ? from(0, 6) : 100 + near;
            case 'B': return from(-20, 20);
            case 'l': return below(2) > 0 ? from(0, 60) : Math.max(0, Math.min(60, near - below(4)));
            case 'c': return from(0, 14);
            default: throw new IllegalStateException("kind " + kind);
        }
    }

    private int near = 50;
    private int focus;
    private int told;

    private static int NONE() {
        return -1;
    }

    private long set() {
        if (below(30) == 0) {
            return below(2) > 0 ? -1L : Long.MIN_VALUE >> below(64);
        }
        long set = 0;
        for (int i = below(9); i >= 0; i--) {
            int line = focus == 1 ? told - below(10) : below(10);
            set |= below(6) == 0 ? 0 : 1L << Math.max(0, Math.min(59, line));
        }
        // Bits above those of lines, beside lines that may be there.
        return below(12) > 0 ? set : set | 1L << from(60, 63);
    }

    private void step() throws Exception {
        near = Math.max(0, Math.min(99, near + from(-2, 2)));
        String spec = KINDS[below(KINDS.length)];
        String name = spec.split(" ")[0];
        // The dear ones seldom, those that bring about something often.
        if (name.equals("aim") || name.equals("fit") || name.equals("clear")) {
            if (below(4) > 0) {
                return;
            }
        }
        if (focus > 0 && below(20) > 0 && FOCUS[focus].indexOf(" " + name + " ") < 0) {
            return;
        }
        if (focus == 2 && below(3) == 0) {
            spec = "fill y P S";
        } else if (focus == 1 && below(3) == 0) {
            spec = below(2) == 0 ? "line K K g g g" : "least K m";
        } else if (focus != 2 && focus != 1 && below(6) == 0) {
            spec = "put P S";
        }
        if (focus == 3 && below(40) == 0) {
            fitScene();
            return;
        }
        String[] parts = spec.split(" ");
        Method mine = methodOf(SlidingFlaws.class, parts[0]);
        Method due = methodOf(Oracle.class, parts[0]);
        Object[] args = new Object[parts.length - 1];
        for (int i = 0; i < args.length; i++) {
            char kind = parts[i + 1].charAt(0);
            args[i] = kind == 'm' ? (Object) set() : kind == 'b' ? (Object) (below(2) == 0) : (Object) value(kind);
        }
        compare(mine, due, args);
    }

    private void call(String name, Object... args) throws Exception {
        compare(methodOf(SlidingFlaws.class, name), methodOf(Oracle.class, name), args);
    }

    /** A run from the mark, and then the pushes that could have brought it about. */
    private void fitScene() throws Exception {
        int q = value('Q');
        int ticks = value('T');
        call("mark");
        call("run", q, ticks, 0);
        call("fit", from(1, 3), from(1, 3), from(4, 6), from(7, 9), from(1, 5), q, ticks);
        for (int i = 0; i < 6; i++) {
            call("fitted", from(0, 12), from(0, 2));
        }
    }

    private void compare(Method mine, Method due, Object... args) throws Exception {
        Object got = invoke(mine, flaws, args);
        Object want = invoke(due, oracle, args);
        calls++;
        made++;
        StringBuilder call = new StringBuilder(mine.getName()).append('(');
        for (int i = 0; i < args.length; i++) {
            call.append(i > 0 ? ", " : "").append(args[i]);
        }
        if (mine.getName().equals("line") || mine.getName().equals("part")) {
            told = Math.max(told, (Integer) got);
        }
        log.append("  ").append(call).append(") -> ").append(got).append('\n');
        if (got != null && !got.toString().equals(String.valueOf(want))) {
            wrong++;
            System.out.println(call + ") answered " + got + ", due is " + want);
        }
    }

    private static Object invoke(Method method, Object on, Object[] args) throws Exception {
        try {
            return method.invoke(on, args);
        } catch (InvocationTargetException e) {
            e.getCause().printStackTrace(System.out);
            return "thrown by " + on.getClass().getName();
        }
    }

    private static Method methodOf(Class<?> of, String name) {
        for (Method m : of.getDeclaredMethods()) {
            // The oracle's private ones of these names take other arguments.
            if (m.getName().equals(name) && !java.lang.reflect.Modifier.isPrivate(m.getModifiers())) {
                m.setAccessible(true);
                return m;
            }
        }
        throw new IllegalStateException("no method " + name);
    }

    private void tell(String text) throws Exception {
        log.append("  text: ").append(text).append('\n');
        Method feed = methodOf(SlidingFlaws.class, "feed");
        Method feedDue = methodOf(Oracle.class, "feed");
        int had = (int) flaws.count(11);
        made++;
        for (int i = 0; i < text.length(); i += 20) {
            Object[] five = new Object[5];
            for (int j = 0; j < 5; j++) {
                int four = 0;
                for (int b = 0; b < 4; b++) {
                    int place = i + 4 * j + b;
                    four = four << 8 | (place < text.length() ? text.charAt(place) : 0);
                }
                five[j] = four;
            }
            compare(feed, feedDue, five);
        }
        compare(methodOf(SlidingFlaws.class, "end"), methodOf(Oracle.class, "end"), had + text.length());
        compare(methodOf(SlidingFlaws.class, "read"), methodOf(Oracle.class, "read"));
    }

    private String gap() {
        return below(6) > 0 ? " " : below(3) > 0 ? "  " : "";
    }

    private String must() {
        return below(60) == 0 ? "" : below(5) > 0 ? " " : "   ";
    }

    private String number(int low, int high) {
        if (below(60) == 0) {
            return new String[] {"-", "00001", "10000", "-0", "0", "-1", "12345", "x", "--1", "9999", "" + (low - 1),
                "" + (high + 1), "0005"}[below(13)];
        }
        return "" + (below(15) == 0 ? low : below(15) == 0 ? high : from(low, high));
    }

    private String way() {
        return below(3) > 0 ? must() + number(-1, 1) + must() + number(-1, 1) + must() + number(0, 1)
            : must() + number(-9, 9) + must() + number(-9, 9) + must() + number(-9, 9);
    }

    private String statement() {
        switch (below(11)) {
            case 0: case 1: return "step" + way();
            case 2: case 3: return "plane" + way();
            case 4: return "eye" + way();
            case 5: case 6: case 7: return "push" + must() + number(1, below(3) > 0 ? 5 : 20) + must() + number(0, below(5) > 0 ? 30 : 999);
            case 8: return "speck" + must() + number(0, 99) + must() + number(0, 20) + must() + number(below(9) > 0 ? 20 : 0, 40);
            case 9: return "source" + must() + number(1, 98) + must() + number(0, 60);
            default: return below(12) == 0 ? new String[] {"stepp", "Step", "", "bas", "x", "\u00ff", "base"}[below(7)]
                : "base" + must() + number(0, 9) + must() + number(below(9) > 0 ? 9 : 0, 30);
        }
    }

    /** Many statements of one sort, so that bounds of how many are met. */
    private String crowd() {
        StringBuilder text = new StringBuilder();
        int sort = below(7);
        int many = from(14, 42);
        for (int i = 0; i < many; i++) {
            String one = sort == 0 ? "step 1 0 0" : sort == 1 ? "plane 1 0 0" : sort == 2 ? "eye 1 0 0"
                : sort == 3 ? "speck " + i + " 1 1" : sort == 4 ? "source " + (1 + i % 7) + " 1"
                : sort == 5 ? "push " + (1 + i % 20) + " 1" : i < 20 ? "push " + (1 + i) + " 0" : i < 36 ? "eye 1 0 0"
                : i == 36 ? "base 0 0" : below(4) > 0 ? "step 1 0 0" : "base 1 1";
            if (text.length() + one.length() + 1 > 400) {
                break;
            }
            text.append(i > 0 ? ";" : "").append(one);
        }
        return text.toString();
    }

    private String text() {
        if (below(12) == 0) {
            return crowd();
        }
        StringBuilder text = new StringBuilder(gap());
        int many = from(0, 25);
        for (int i = 0; i < many; i++) {
            text.append(i > 0 ? ";" : "").append(gap()).append(statement()).append(gap());
        }
        if (below(6) == 0 && text.length() > 0) {
            text.setCharAt(below(text.length()), "; -0123456789stepx\u0000\u00a0A"
                .charAt(below(21)));
        }
        if (text.length() > 400) {
            text.setLength(400);
        }
        return text.toString();
    }

    /** A text without faults, so that there is something to go by. */
    private String plainText() {
        StringBuilder text = new StringBuilder("base 1 3; push 1 9; push 2 4");
        for (int i = below(4); i >= 0; i--) {
            text.append(";step ").append(from(-1, 1)).append(' ').append(from(-1, 1)).append(" 1");
        }
        for (int i = below(4); i >= 0; i--) {
            text.append(";plane ").append(from(-1, 1)).append(" 1 ").append(from(-1, 1));
        }
        for (int i = below(4); i >= 0; i--) {
            text.append(";eye 1 ").append(from(-1, 1)).append(' ').append(from(-1, 1));
        }
        text.append(";step 1 0 0;plane 0 0 1;push ").append(from(3, 20)).append(' ').append(from(0, 20));
        for (int i = 0; i < 3; i++) {
            text.append(";speck ").append(20 + 20 * i + from(0, 19)).append(' ').append(from(0, 9)).append(' ').append(from(9, 25));
            text.append(";source ").append(20 + 20 * i + from(0, 19)).append(' ').append(from(0, 30));
        }
        return text.toString();
    }

    /** A text in which many steps are in many planes, and sums of steps are steps. */
    private String sceneText() {
        String steps = "step 1 0 0;step 0 1 0;step 1 -1 0;step 1 0 -1;step 1 1 0;step 2 0 0;step 0 0 1";
        String planes = ";plane 0 0 1;plane 1 1 1;plane 0 1 0;plane 0 0 1;eye 1 1 0;eye 0 0 1;eye 1 -1 1;eye 1 0 0";
        String pushes = ";push 1 " + from(0, 12) + ";push 2 " + from(0, 9) + ";push " + from(3, 20) + " " + from(0, 7);
        String holds = ";base " + from(0, 3) + " " + from(3, 9) + ";speck 50 5 30;speck " + from(51, 60) + " 3 20";
        return steps + planes + pushes + holds + ";source " + from(45, 55) + " " + from(5, 40) + ";source " + from(56, 60) + " 9";
    }

    private void renew() {
        flaws = new SlidingFlaws();
        oracle = new Oracle();
        log.setLength(0);
        made = 0;
    }

    private boolean play(int steps) throws Exception {
        renew();
        focus = below(4);
        for (int i = 0; i < steps && wrong == 0 && made < LAST_CALL; i++) {
            if (i == 0 && focus == 1) {
                call("knot", below(2) == 0);
                call("knot", below(2) == 0);
            }
            if (i == 3 || focus == 0 && below(60) == 0 || below(200) == 0) {
                tell(focus > 0 ? sceneText() : below(2) == 0 ? plainText() : text());
            } else {
                step();
            }
        }
        return wrong == 0;
    }

    public static void main(String[] args) throws Exception {
        Watch.start("FuzzTest");
        int runs = args.length > 0 ? Integer.parseInt(args[0]) : 400;
        int start = args.length > 1 ? Integer.parseInt(args[1]) : 0;
        long calls = 0;
        List<String> sorts = new ArrayList<>();
        for (int run = start; run < start + runs; run++) {
            FuzzTest test = new FuzzTest(run);
            if (!test.play(500)) {
                System.out.println("run " + run + ", the last calls of it:");
                String[] rows = test.log.toString().split("\n");
                for (int i = Math.max(0, rows.length - 60); i < rows.length; i++) {
                    System.out.println(rows[i]);
                }
                System.exit(1);
            }
            calls += test.calls;
        }
        // Texts alone, far more of them.
        for (int run = start; run < start + runs * 2; run++) {
            FuzzTest test = new FuzzTest(run + 1000000);
            test.renew();
            for (int i = 0; i < 20 && test.wrong == 0; i++) {
                if (test.made > LAST_CALL) {
                    test.renew();
                }
                test.tell(test.text());
            }
            if (test.wrong > 0) {
                System.out.println("texts of run " + run + ":\n" + test.log);
                System.exit(1);
            }
            calls += test.calls;
        }
        System.out.println(runs + " runs, " + calls + " calls: all answers are as the oracle's");
    }
}
