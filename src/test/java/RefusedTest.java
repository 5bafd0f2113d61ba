import java.lang.reflect.Method;
import java.util.ArrayList;
import java.util.Arrays;
import java.util.List;

/**
 * One object in which something of each sort stands; then one call that is refused, or asks alone: what all later
 * calls answer must be as if it had not been made.
 */
public final class RefusedTest extends Bounds {
    // Each row: the call, its answer when it is refused, and for each argument one that is right, then wrong ones
    // (m and M: the least and the greatest int; l and L: the least and the greatest long).
    private static final String[] REFUSED = {
        "end -1 0/-1,41,401,m,M",
        "told -100 0/-1,3,m,M 0/-1,3,16,m,M 0/-1,3,m,M",
        "push 0 5/-1,0,21,m,M",
        "hold -1 50/-1,100,m,M 0/-1,2,m,M",
        "line -1 0/-1,3,60,m,M 1/-1,0,3,60,m,M 1/-100,100,m,M 0/-100,100,m,M 0/-100,100,m,M",
        "line -1 0/ 1/ 0/0 0/0 0/0",
        "lines -1000 0/-1,3,5,8,120,m,M 0/-1,6,m,M",
        "sum -100000 0/-1,3,60,m,M 0/-1,3,m,M",
        "meet -1 0/-1,1,3,5,6,m,M 1/-1,0,3,5,6,m,M",
        "meet -2 6/6 7/7",
        "meet 0 0/0 1/1",
        "part -1 2/-1,3,5,8,m,M 0/-1,3,16,m,M false/",
        "part -2 2/2 1/1 true/true",
        "least -1 0/-1,3,m,M 3/0,1,2,4,8,32,35,L,l",
        "group -1 -1/-1,3,8,m,M",
        "share -1 1/-10,10,m,M 0/-10,10,m,M 1/-10,10,m,M 0/-1,1,2,m,M 0/-1,3,m,M 0/-1,2,m,M",
        "share -1 0/0 0/0 0/0 0/ 0/ 0/",
        "slides -1 1/-10,10,m,M 0/-10,10,m,M 1/-10,10,m,M 0/-1,1,2,m,M 0/-1,3,m,M 5/-1,10000,m,M 5/-1,10000,m,M",
        "slides -1 0/0 0/0 0/0 0/ 0/ 5/ 5/",
        "first -1 1/-10,10,m,M 0/-10,10,m,M 1/-10,10,m,M 0/-2,2,256,m,M",
        "first -1 0/0 0/0 0/0 -1/",
        "put 0 60/-1,24,66,100,m,M 1/-2,0,2,m,M",
        "at 0 -1/-1,0,100,m,M",
        "feels -1000000000 24/-1,0,20,100,m,M 0/-10000,10000,m,M",
        "run -1 5/-10000,10000,m,M 5/-1,201,m,M 0/-1,2,m,M",
        "sure -1 5/-10000,10000,m,M 5/-1,201,m,M",
        "shape -1000000000000 0/-1,3,m,M 0/-1,2,m,M 0/-1,3,m,M 0/-1,3,m,M",
        "aim -1 4/-1,0,5,m,M 5/-10000,10000,m,M 5/-10000,10000,m,M 5/-10000,10000,m,M 5/-10000,10000,m,M 5/-1,0,21,m,M "
            + "5/-1001,0,1001,m,M",
        "aim -2 1/1 5/5 0/0 0/0 0/0 1/1 1000/1000",
        "aimed -1 -1/-1,1,5,m,M",
        "fit -1 3/-1,0,4,m,M 1/-1,0,2,3,21,m,M 2/-1,0,1,3,21,m,M 3/-1,0,1,2,21,m,M 5/-1,0,101,m,M 5/-10000,10000,m,M 5/-1,201,m,M",
        "fitted -1 -1/-1,8,512,m,M 0/", "fitted -1 0/ -1/-1,1,3,m,M",
        "seen -1 0/-1,3,5,8,120,m,M 0/-1,2,m,M",
        "sight -1 -1/-1,2,16,m,M true/",
        "readBack -1 -2/-2,3,16,m,M",
        "system -1 0/-1,1,2,m,M 0/-1,3,m,M",
        "harder 0 1/-1,1000,m,M 1/-1,1000,m,M",
        "fill 0 0/-1,2,8,m,M 60/-1,10,100,m,M 1/-2,0,2,m,M",
        "systems -1000000 0/-1,2,8,m,M 0/-1,7,99,200,m,M",
        "pulled -1000000 1/-10,10,m,M 0/-10,10,m,M 1/-10,10,m,M 5/-1,10000,m,M 0/-1,2,8,m,M",
        "pulled -1000000 0/0 0/0 0/0 5/ 0/",
        "load -1 1/-10,10,m,M 0/-10,10,m,M 1/-10,10,m,M 50/-1,10000,m,M 5/-1,201,m,M 0/-1,2,m,M",
        "load -1 0/0 0/0 0/0 50/ 5/ 0/",
        "strain -1000000000000000 1/-10,10,m,M 0/-10,10,m,M 1/-10,10,m,M",
        "strain -1000000000000000 0/0 0/0 0/0",
        "curve -1000000000000000 1/-10,10,m,M 0/-10,10,m,M 1/-10,10,m,M 50/-1,10000,9998,m,M 1/-10000,10000,-26,m,M 3/-1,0,21,m,M 5/-1,0,51,m,M",
        "curve -1000000000000000 0/0 0/0 0/0 50/ 1/ 3/ 5/",
        "curved -1000000000000000 -1/-1,2,20,m,M",
        "form -1000000000000000 0/-1,3,m,M 0/-1,3,m,M",
        "wall -1 -1/-1,100,m,M",
        "tilt -100000 0/-1,100,m,M 0/-1,3,m,M",
        "shield -1000000000 -1/-1,61,m,M",
        "crack -1 5/-1,61,m,M 5/-10000,10000,m,M 5/-1,7,10000,m,M 6/-1,4,10000,m,M",
        "runsTo -1 5/-1,61,m,M 5/-10000,10000,m,M 5/-1,10000,m,M 5/-1,1000,m,M",
        "count -1 -1/-1,15,m,M"
    };
    // Each row: a call that is not refused, but asks alone, or tries.
    private static final String[] ASKED = {
        "told 0 0 0", "told 2 1 2", "push 1", "hold 0 1", "lines 0 5", "sum 0 0", "unsound", "group 0", "share 1 0 1 0 0 1",
        "slides 1 0 1 0 0 9999 0", "first 1 1 1 -1", "first 1 1 1 0", "at 24", "feels 24 9999", "sure 9999 200", "sure -9999 200",
        "shape 2 0 0 2", "aimed 0", "fitted 0 0", "seen 0 0", "readBack -1", "readBack 0", "nextEye", "systems 0 3", "systems 1 199",
        "pulled 1 0 1 9999 0", "strain 1 2 3", "curved 0", "form 0 2", "wall 10", "tilt 10 0", "shield 0", "shield 60",
        "crack 60 9999 0 9999", "runsTo 0 9999 0 0", "count 14", "end 40"
    };

    private static SlidingFlaws scene() {
        SlidingFlaws x = of("step 1 0 0;step 0 1 0;step 1 1 0;plane 0 0 1;plane 1 0 0;eye 1 0 0;eye 0 0 1;push 1 9;push 2 4;"
            + "speck 50 3 8;source 30 90;base 1 2");
        x.knot(false);
        x.knot(true);
        x.knot(false);
        x.line(0, 1, 2, 1, 0);
        x.line(0, 1, 1, 1, 3);
        x.line(1, 0, 1, 3, 1);
        x.line(0, 1, 5, 5, 5);
        x.line(0, 2, 5, 5, 5);
        x.line(0, 1, -5, -5, -5);
        x.line(2, 1, 99, 1, 0);
        x.line(2, 1, 1, 1, 0);
        x.meet(3, 5);
        x.least(0, 7);
        put(x, "20+ 40-");
        x.mark();
        put(x, "99+ 70-");
        x.run(5, 3, 0);
        x.run(95, 1, 1);
        put(x, "5+ 7-");
        x.undo();
        x.aim(1, 9, 0, 0, 0, 5, 5);
        x.fit(1, 7, 0, 0, 3, 0, 0);
        x.back();
        x.fit(1, 7, 0, 0, 3, 0, 0);
        x.undo();
        x.sight(1, false);
        x.system(0, 0);
        x.system(1, 1);
        fill(x, 0, "10+ 99+");
        fill(x, 1, "10- 50-");
        x.harder(150, 70);
        x.load(1, 1, 1, 30, 2, 0);
        x.curve(1, 0, 1, 40, 1, 2, 1);
        fill(x, 0, "10+");
        x.put(0, 1);
        x.undo();
        feedOnly(x, "plane 0 0 1;step 7 8 9  ;push 3 3;x     ");
        x.end(40);
        return x;
    }

    /** All that later calls tell; what of the latest least(), aim() and fit() is left out is told by name. */
    private static String look(SlidingFlaws x, String but) {
        StringBuilder all = new StringBuilder();
        for (int i = 0; i < 15; i++) {
            all.append(x.count(i)).append(' ');
        }
        for (int i = 0; i < 27; i++) {
            all.append(x.told(i / 9, i / 3 % 3, i % 3)).append(' ');
        }
        for (int d = 1; d <= 20; d++) {
            all.append(x.push(d)).append(' ');
        }
        for (int place : new int[] {0, 1, 30, 50, 99}) {
            all.append(x.hold(place, 0)).append(' ').append(x.hold(place, 1)).append(' ');
        }
        all.append("\nlines ");
        for (int i = 0; i < 54; i++) {
            all.append(x.lines(i / 6, i % 6)).append(' ');
        }
        all.append(x.unsound()).append(' ').append(x.sum(0, 0)).append(' ').append(x.sum(1, 1)).append(' ').append(x.sum(2, 2));
        for (int i = 0; i < 4; i++) {
            all.append(' ').append(but.equals("least") ? 0 : x.group(i)).append(' ').append(but.equals("aim") ? 0 : x.aimed(i))
                .append(' ').append(but.equals("fit") ? 0 : x.fitted(2 * i + 1, 0)).append(' ').append(x.curved(i));
        }
        all.append("\nsights ").append(x.readBack(-1)).append(x.readBack(1)).append(x.nextEye());
        all.append("\nsystems ");
        for (int i = 0; i < 21; i++) {
            all.append(x.systems(i / 7, i % 7)).append(' ');
        }
        for (int place : new int[] {0, 9, 10, 11, 12, 13, 14, 47, 48, 49, 50, 99}) {
            all.append(x.systems(0, 100 + place)).append(x.systems(1, 100 + place)).append(' ');
        }
        all.append(x.strain(1, 2, 3)).append(x.form(0, 2)).append(x.wall(10));
        all.append("\nrow ").append(row(x));
        // What could be redone and undone, what is marked, and what is on the TAPE.
        all.append("\nthen ").append(x.redo()).append(x.count(5)).append(x.undo()).append(x.undo()).append(x.count(6)).append(x.count(14));
        all.append(x.back()).append(x.at(20)).append(x.at(40)).append(x.at(99)).append(x.run(9, 5, 0)).append(x.count(7));
        x.end((int) Math.min(x.count(11), 24));
        all.append(x.read()).append(x.told(0, 0, 2));
        return all.toString();
    }

    private static Method methodOf(String name) {
        for (Method m : SlidingFlaws.class.getDeclaredMethods()) {
            if (m.getName().equals(name)) {
                return m;
            }
        }
        throw new IllegalStateException(name);
    }

    private static Object argument(String text, Class<?> type) {
        if (type == boolean.class) {
            return Boolean.valueOf(text);
        }
        if (type == long.class) {
            return text.equals("L") ? Long.MAX_VALUE : text.equals("l") ? Long.MIN_VALUE : Long.parseLong(text);
        }
        return text.equals("m") ? MIN : text.equals("M") ? MAX : Integer.parseInt(text);
    }

    private static long call(SlidingFlaws x, String name, String[] texts) throws Exception {
        Method m = methodOf(name);
        Object[] args = new Object[texts.length];
        for (int i = 0; i < args.length; i++) {
            args[i] = argument(texts[i], m.getParameterTypes()[i]);
        }
        Object answer = m.invoke(x, args);
        return answer instanceof Boolean b ? b ? 1 : 0 : answer == null ? 0 : ((Number) answer).longValue();
    }

    private static void unchanged(String what, SlidingFlaws x, String but, String before) {
        same("what is told behind " + what, look(x, but), before);
    }

    /** Every wrong argument by itself; then, if there are more than one, all first wrong ones together. */
    private static List<String[]> wrongOnes(String[] parts) {
        List<String[]> all = new ArrayList<>();
        String[] right = new String[parts.length - 2];
        String[] both = new String[parts.length - 2];
        for (int i = 0; i < right.length; i++) {
            right[i] = parts[i + 2].substring(0, parts[i + 2].indexOf('/'));
        }
        for (int i = 0; i < right.length; i++) {
            String wrongs = parts[i + 2].substring(parts[i + 2].indexOf('/') + 1);
            both[i] = wrongs.isEmpty() ? right[i] : wrongs.split(",")[0];
            for (String one : wrongs.isEmpty() ? new String[0] : wrongs.split(",")) {
                String[] args = right.clone();
                args[i] = one;
                all.add(args);
            }
        }
        all.add(both);
        return all;
    }

    private static void refused() throws Exception {
        String before = look(scene(), "");
        for (String row : REFUSED) {
            String[] parts = row.split(" ");
            for (String[] args : wrongOnes(parts)) {
                SlidingFlaws x = scene();
                String call = parts[0] + Arrays.toString(args);
                due(call, call(x, parts[0], args), Long.parseLong(parts[1]));
                unchanged(call, x, "", before);
            }
        }
        // Where it is full: each sort once.
        SlidingFlaws x = scene();
        for (int i = 0; i < 18; i++) {
            x.feed(0x20202020, 0, 0, 0, 0);
        }
        due("feed() of 20 more than 400", x.feed(0x71717171, 1, 1, 1, 1), NONE);
        x.end(40);
        unchanged("feed() beyond 400", x, "", before);
    }

    private static void asked() throws Exception {
        String before = look(scene(), "");
        for (String row : ASKED) {
            String[] parts = row.split(" ");
            SlidingFlaws x = scene();
            call(x, parts[0], Arrays.copyOfRange(parts, 1, parts.length));
            unchanged(row, x, "", before);
        }
        String[] tried = {"least 0 6", "aim 2 40 -40 0 0 20 9", "fit 2 1 2 0 5 9 9"};
        for (String row : tried) {
            String[] parts = row.split(" ");
            SlidingFlaws x = scene();
            due(row + " is not refused", call(x, parts[0], Arrays.copyOfRange(parts, 1, parts.length)) >= 0, true);
            unchanged(row, x, parts[0], look(scene(), parts[0]));
        }
    }

    /** The scene is one: each of these calls, with right arguments, does change it. */
    private static void changing() throws Exception {
        String before = look(scene(), "");
        String[] rows = {"feed 1 2 3 4 5", "end 39", "end 0", "read", "knot true", "line 0 1 1 0 0", "meet 0 2", "part 0 0 false",
            "least 0 6", "put 60 1", "clear", "mark", "back", "run 9 9 0", "run 0 0 0", "aim 2 -40 40 0 0 20 9", "fit 1 1 0 0 5 9 9",
            "sight 0 true", "forget", "system 0 1", "harder 1 1", "fill 0 60 1", "load 1 0 1 50 1 0", "curve 1 0 1 50 1 1 1", "undo",
            "redo"};
        for (String row : rows) {
            String[] parts = row.split(" ");
            SlidingFlaws x = scene();
            call(x, parts[0], Arrays.copyOfRange(parts, 1, parts.length));
            due(row + " is told", look(x, "").equals(before), false);
        }
    }

    public static void main(String[] args) throws Exception {
        Watch.start("RefusedTest");
        refused();
        asked();
        changing();
        System.out.println(asked + " asked of refused calls, " + wrong + " wrong");
        if (wrong != 0) {
            System.exit(1);
        }
    }
}
