import java.lang.reflect.Constructor;
import java.lang.reflect.Field;
import java.lang.reflect.Method;
import java.lang.reflect.Modifier;
import java.nio.file.Files;
import java.nio.file.Path;
import java.util.ArrayList;
import java.util.List;
import java.util.Set;
import java.util.TreeSet;
import java.util.regex.Matcher;
import java.util.regex.Pattern;

/** The class has the document's face and no other, and keeps to what can be told of LANGUAGE.md by looking. */
public final class FaceTest {
    private static int wrong = 0;

    private static void due(String what, boolean right) {
        if (!right) {
            wrong++;
            System.out.println(what);
        }
    }

    private static Set<String> faceOfDocument() throws Exception {
        String doc = Files.readString(Path.of("../shared/DOC.md"));
        String face = doc.substring(doc.indexOf("```java"), doc.indexOf("```", doc.indexOf("```java") + 3));
        Set<String> all = new TreeSet<>();
        Matcher m = Pattern.compile("public (\\w+) (\\w+)\\(([^)]*)\\);").matcher(face);
        while (m.find()) {
            StringBuilder types = new StringBuilder();
            for (String one : m.group(3).split(", ")) {
                types.append(one.isEmpty() ? "" : one.split(" ")[0] + " ");
            }
            all.add(m.group(1) + " " + m.group(2) + " " + types);
        }
        return all;
    }

    private static String told(Method m) {
        StringBuilder types = new StringBuilder();
        for (Class<?> one : m.getParameterTypes()) {
            types.append(one.getName()).append(' ');
        }
        return m.getReturnType().getName() + " " + m.getName() + " " + types;
    }

    private static void face() throws Exception {
        Set<String> due = faceOfDocument();
        due("the document's face was not found", due.size() == 54);
        Set<String> got = new TreeSet<>();
        Set<String> names = new TreeSet<>();
        for (Method m : SlidingFlaws.class.getDeclaredMethods()) {
            if (Modifier.isPublic(m.getModifiers())) {
                got.add(told(m));
                names.add(m.getName());
                due("static: " + m, !Modifier.isStatic(m.getModifiers()));
            }
        }
        due("the face is " + got + "\nand not " + due, got.equals(due));
        for (Method m : SlidingFlaws.class.getDeclaredMethods()) {
            boolean hidden = Modifier.isPrivate(m.getModifiers()) && !names.contains(m.getName());
            due("neither public nor private, or of a public one's name: " + m, Modifier.isPublic(m.getModifiers()) || hidden);
        }
        for (Field f : SlidingFlaws.class.getDeclaredFields()) {
            due("not private: " + f, f.getName().equals("NONE") || Modifier.isPrivate(f.getModifiers()));
            due("static and not final: " + f, !Modifier.isStatic(f.getModifiers()) || Modifier.isFinal(f.getModifiers()));
        }
        Field none = SlidingFlaws.class.getField("NONE");
        due("NONE is no constant of -1", Modifier.isFinal(none.getModifiers()) && none.getInt(null) == -1);
        Constructor<?>[] makers = SlidingFlaws.class.getDeclaredConstructors();
        due("constructors", makers.length == 1 && Modifier.isPublic(makers[0].getModifiers()) && makers[0].getParameterCount() == 0);
        due("class", Modifier.isPublic(SlidingFlaws.class.getModifiers()) && Modifier.isFinal(SlidingFlaws.class.getModifiers()));
        due("more classes than twelve", SlidingFlaws.class.getDeclaredClasses().length < 12);
        for (Class<?> inside : SlidingFlaws.class.getDeclaredClasses()) {
            due("not static: " + inside, Modifier.isStatic(inside.getModifiers()) && !Modifier.isPublic(inside.getModifiers()));
            for (Method m : inside.getDeclaredMethods()) {
                due("of a public one's name: " + m, !names.contains(m.getName()));
                due("more than seven parameters: " + m, m.getParameterCount() <= 7);
            }
            int fields = 0;
            for (Field f : inside.getDeclaredFields()) {
                fields += Modifier.isStatic(f.getModifiers()) ? 0 : 1;
            }
            due("more than twenty fields: " + inside, fields <= 20);
        }
    }

    private static void rules() throws Exception {
        String source = Files.readString(Path.of("src/main/java/SlidingFlaws.java"));
        for (char c : source.toCharArray()) {
            due("a sign beyond 127", c < 128);
        }
        String bare = source.replaceAll("/\\*\\*[^\\n]*\\*/", "").replaceAll("//[^\\n]*", "");
        String[] never = {"throw", "throws", "try", "catch", "synchronized", "assert", "finally", "record", "enum", "interface",
            "instanceof", "Object", "Random", "System\\.(?!arraycopy)", "Thread", "double", "float", "Exact", "MAX_VALUE",
            "MIN_VALUE", "import (?!java\\.util\\.Arrays;)", "package", "->", "::", "\\bvar\\b", "@", "protected"};
        for (String one : never) {
            String word = one.matches("[a-zA-Z]+") ? "\\b" + one + "\\b" : one;
            due("in the source stands " + one, !Pattern.compile(word).matcher(bare).find());
        }
        due("a text is joined by +", !Pattern.compile("\"\\s*\\+|\\+\\s*\"").matcher(bare).find());
        Matcher m = Pattern.compile("\\b(Math|Arrays|System)\\.(\\w+)").matcher(bare);
        Set<String> allowed = Set.of("Math.max", "Math.min", "Math.abs", "Arrays.fill", "System.arraycopy");
        while (m.find()) {
            due("not of the library's part: " + m.group(), allowed.contains(m.group()));
        }
        int length = 0;
        String head = "";
        for (String row : source.split("\n")) {
            length++;
            if (row.matches("    (    )?\\S.*\\) \\{")) {
                length = 0;
                head = row;
            }
            due("longer than sixty rows: " + head, length <= 60 || head.isEmpty() || !row.matches("    (    )?\\}"));
            if (row.matches("    (    )?\\}")) {
                head = "";
            }
        }
    }

    private static long rote = 12345;

    private static int any() {
        rote = rote * 6364136223846793005L + 1442695040888963407L;
        int high = (int) (rote >>> 33);
        int[] ends = {0, 1, -1, 2, 19, 20, 29, 30, 59, 60, 99, 100, 200, 9999, -9999, Integer.MAX_VALUE, Integer.MIN_VALUE};
        return high % 3 == 0 ? ends[high / 3 % ends.length] : high % 3 == 1 ? high / 3 % 12 : (int) (rote >>> 17);
    }

    /** Whatever it is asked, in whatever state: it answers. */
    private static void anything() throws Exception {
        List<Method> all = new ArrayList<>();
        for (Method m : SlidingFlaws.class.getDeclaredMethods()) {
            if (Modifier.isPublic(m.getModifiers()) && !m.getName().equals("fit") && !m.getName().equals("aim")) {
                all.add(m);
            }
        }
        all.sort((a, b) -> a.getName().compareTo(b.getName()));
        for (int run = 0; run < 300; run++) {
            SlidingFlaws x = new SlidingFlaws();
            for (int i = 0; i < 512; i++) {
                Method m = all.get((any() & 0x7fffffff) % all.size());
                Object[] args = new Object[m.getParameterCount()];
                for (int k = 0; k < args.length; k++) {
                    Class<?> type = m.getParameterTypes()[k];
                    args[k] = type == boolean.class ? (Object) (any() % 2 == 0) : type == long.class
                        ? (Object) ((long) any() << 32 ^ any()) : (Object) any();
                }
                m.invoke(x, args);
            }
        }
    }

    /** All calls of a run live in one room: what a call makes would be there as often as it is called. */
    private static void room() {
        SlidingFlaws x = new SlidingFlaws();
        com.sun.management.ThreadMXBean bean
            = (com.sun.management.ThreadMXBean) java.lang.management.ManagementFactory.getThreadMXBean();
        int[] text = {0x70757368, 0x20312039, 0x3b707573, 0x68203220, 0x34202020};
        long made = 0;
        for (int round = 0; round < 3; round++) {
            long before = bean.getThreadAllocatedBytes(Thread.currentThread().getId());
            for (int i = 0; i < 14; i++) {
                x.feed(text[0], text[1], text[2], text[3], text[4]);
                x.read();
                x.put(40 + i, i % 3 == 0 ? -1 : 1);
                x.mark();
                x.run(5, 20, 0);
                x.fit(3, 1, 2, 3, 5, 4, 20);
                x.aim(3, 5, -4, 7, 0, 5, 40);
                x.sure(3, 20);
                x.undo();
                x.redo();
                x.curve(1, 0, 1, 5, 1, 20, 10);
                x.least(0, 255);
            }
            made = bean.getThreadAllocatedBytes(Thread.currentThread().getId()) - before;
        }
        due("168 calls made " + made + " bytes", made < 20000);
    }

    public static void main(String[] args) throws Exception {
        Watch.start("FaceTest");
        face();
        rules();
        anything();
        room();
        System.out.println(wrong == 0 ? "the face and the rules are kept" : wrong + " are not kept");
        if (wrong != 0) {
            System.exit(1);
        }
    }
}
