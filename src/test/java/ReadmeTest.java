import java.lang.reflect.Method;
import java.nio.file.Files;
import java.nio.file.Path;
import java.util.Set;
import java.util.TreeSet;
import java.util.regex.Matcher;
import java.util.regex.Pattern;

/** The calls in README.md, asked of one object from the first to the last, have the answers that stand beside them. */
public final class ReadmeTest {
    private static final Pattern CALL = Pattern.compile("    flaws\\.(\\w+)\\(([^)]*)\\);(?: +// (.*))?");
    private static final Pattern TELL = Pattern.compile("    tell\\(flaws, \"([^\"]*)\"\\); +// (.*)");

    private static final SlidingFlaws FLAWS = new SlidingFlaws();
    private static final Set<String> ASKED = new TreeSet<>();
    private static int calls = 0;
    private static int asked = 0;
    private static int wrong = 0;

    private static void due(String line, String answer, String told) {
        asked++;
        String due = told == null ? "null" : told.split(":")[0];
        if (!answer.equals(due)) {
            wrong++;
            System.out.println("README.md: " + line.strip() + "   but it is " + answer);
        }
    }

    private static Object argument(String written, Class<?> type) {
        if (type == boolean.class) {
            if (!written.equals("true") && !written.equals("false")) {
                throw new IllegalArgumentException("no boolean: " + written);
            }
            return written.equals("true");
        }
        if (written.equals("SlidingFlaws.NONE")) {
            return SlidingFlaws.NONE;
        }
        return type == long.class ? (Object) Long.decode(written.replace("L", "")) : (Object) Integer.decode(written);
    }

    private static Method named(String name) {
        for (Method one : SlidingFlaws.class.getDeclaredMethods()) {
            if (one.getName().equals(name)) {
                return one;
            }
        }
        throw new IllegalArgumentException("no method " + name);
    }

    private static void ask(String line, Matcher call) throws Exception {
        Method method = named(call.group(1));
        Class<?>[] types = method.getParameterTypes();
        String[] written = call.group(2).isEmpty() ? new String[0] : call.group(2).split(", ");
        if (written.length != types.length) {
            throw new IllegalArgumentException("not so many arguments: " + line);
        }
        Object[] arguments = new Object[types.length];
        for (int i = 0; i < types.length; i++) {
            arguments[i] = argument(written[i], types[i]);
        }
        calls++;
        ASKED.add(method.getName());
        due(line, String.valueOf(method.invoke(FLAWS, arguments)), call.group(3));
    }

    /** As it stands in README.md, which tells() looks at. */
    private static int tell(SlidingFlaws flaws, String text) {
        int[] four = new int[5];
        for (int i = 0; i < text.length(); i += 20) {
            for (int k = 0; k < 20; k++) {
                int one = i + k < text.length() ? text.charAt(i + k) : 0;
                four[k / 4] = four[k / 4] << 8 | one;
            }
            flaws.feed(four[0], four[1], four[2], four[3], four[4]);
        }
        flaws.end(text.length());
        return flaws.read();
    }

    private static String tells(String source) {
        String bare = source.replaceAll("\\s+", " ");
        int from = bare.indexOf("static int tell(SlidingFlaws flaws, String text) {");
        int to = bare.indexOf("return flaws.read(); }", Math.max(0, from));
        return from < 0 || to < 0 ? source : bare.substring(from, to);
    }

    private static void everyMethodStandsThere() {
        for (Method one : SlidingFlaws.class.getMethods()) {
            if (one.getDeclaringClass() == SlidingFlaws.class && !ASKED.contains(one.getName())) {
                wrong++;
                System.out.println("README.md shows no call of " + one.getName());
            }
        }
    }

    public static void main(String[] args) throws Exception {
        Watch.start("ReadmeTest");
        String readme = Files.readString(Path.of("README.md"));
        for (String line : readme.split("\n")) {
            Matcher call = CALL.matcher(line);
            Matcher text = TELL.matcher(line);
            if (call.matches()) {
                ask(line, call);
            } else if (text.matches()) {
                calls += text.group(1).length() / 20 + 3;
                due(line, String.valueOf(tell(FLAWS, text.group(1))), text.group(2));
            } else if (line.startsWith("    flaws.") || line.startsWith("    tell(")) {
                throw new IllegalArgumentException("not understood: " + line);
            }
        }
        everyMethodStandsThere();
        if (!tells(readme).equals(tells(Files.readString(Path.of("src/test/java/ReadmeTest.java"))))) {
            wrong++;
            System.out.println("tell() in README.md is not the one that this test uses");
        }
        if (calls > 512) {
            wrong++;
            System.out.println("README.md asks one object for more than its 512 calls");
        }
        System.out.println(asked + " answers of README.md, " + wrong + " wrong");
        if (wrong != 0) {
            System.exit(1);
        }
    }
}
