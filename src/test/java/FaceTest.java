import java.io.IOException;
import java.lang.reflect.Constructor;
import java.lang.reflect.Field;
import java.lang.reflect.Method;
import java.lang.reflect.Modifier;
import java.nio.file.Files;
import java.nio.file.Path;
import java.util.ArrayList;
import java.util.List;
import java.util.TreeSet;
import java.util.regex.Pattern;

/** The public face, no call that throws, no call that makes objects, and what LANGUAGE.md rules out by a word. */
public final class FaceTest {
    private static final Check CHECK = new Check();
    private static final String FACE = "feed1 book0 fault0 undo0 alter3 add4 law2 away3 feast2 year2 day3 held3 psalm3 read3 "
        + "sings3 duties3 fair1 meet3 springs3 often4 enough2 best1 bars2 image1 restore1 count1";
    private static final int[] EDGES = {Integer.MIN_VALUE, -1000000, -367, -2, -1, 0, 1, 2, 3, 4, 5, 6, 8, 9, 11, 12, 13, 30, 59,
        60, 99, 100, 149, 150, 160, 255, 256, 364, 365, 366, 367, 400, 998, 999, 1000, Integer.MAX_VALUE};
    private static long seed = 7;

    public static void main(String[] args) throws ReflectiveOperationException, IOException {
        face();
        nothingThrows();
        nothingIsMade();
        words();
        CHECK.end();
    }

    private static void face() throws ReflectiveOperationException {
        Class<FeastRota> type = FeastRota.class;
        CHECK.due("public final", type.getModifiers(), Modifier.PUBLIC | Modifier.FINAL);
        TreeSet<String> open = new TreeSet<>();
        TreeSet<String> hidden = new TreeSet<>();
        for (Method m : type.getDeclaredMethods()) {
            if (Modifier.isPrivate(m.getModifiers())) {
                hidden.add(m.getName());
            } else {
                open.add(m.getName() + m.getParameterCount());
                CHECK.due(m + " is public", m.getModifiers(), Modifier.PUBLIC);
                CHECK.due(m + " answers int", m.getReturnType() == int.class ? 1 : 0, 1);
            }
        }
        CHECK.due("methods " + open, open.equals(new TreeSet<>(List.of(FACE.split(" ")))) ? 1 : 0, 1);
        TreeSet<String> names = new TreeSet<>();
        for (String s : open) {
            names.add(s.substring(0, s.length() - 1));
        }
        for (Class<?> inner : type.getDeclaredClasses()) {
            CHECK.due(inner + " is static", Modifier.isStatic(inner.getModifiers()) ? 1 : 0, 1);
            for (Method m : inner.getDeclaredMethods()) {
                hidden.add(m.getName());
            }
        }
        hidden.retainAll(names);
        CHECK.due("names of the face inside: " + hidden, hidden.size(), 0);
        fields(type);
        Constructor<?>[] made = type.getDeclaredConstructors();
        CHECK.due("constructors", made.length, 1);
        CHECK.due("its parameters", made[0].getParameterCount(), 0);
    }

    private static void fields(Class<FeastRota> type) throws ReflectiveOperationException {
        int open = 0;
        for (Field f : type.getDeclaredFields()) {
            open += Modifier.isPrivate(f.getModifiers()) ? 0 : 1;
        }
        CHECK.due("open fields", open, 4);
        CHECK.due("NONE", type.getField("NONE").getInt(null), -1000000);
        CHECK.due("BAD", type.getField("BAD").getInt(null), -1000001);
        CHECK.due("STATE", type.getField("STATE").getInt(null), -1000002);
        CHECK.due("FULL", type.getField("FULL").getInt(null), -1000003);
    }

    private static int roll(int many) {
        seed = seed * 6364136223846793005L + 1442695040888963407L;
        return (int) ((seed >>> 33) % many);
    }

    private static void nothingThrows() {
        List<Method> calls = new ArrayList<>();
        for (Method m : FeastRota.class.getDeclaredMethods()) {
            if (Modifier.isPublic(m.getModifiers())) {
                calls.add(m);
            }
        }
        String[] texts = {"", "k0,0,0;p10,1;c2,0;", "k2,29,6;" + "d365,5,1;".repeat(12) + "z0,11,1;p150,9;c5,2;",
            "k1,0,3;b99,1,1;f99,2,2;n365,3,3;d365,4,4;z0,1,1;z1,2,1;z2,3,1;z3,0,1;p10,9;c5,1;"};
        for (int run = 0; run < 400; run++) {
            FeastRota x = new FeastRota();
            Check.tell(x, texts[run % texts.length]);
            for (int i = 0; i < 600; i++) {
                oneCall(x, calls.get(roll(calls.size())));
            }
        }
    }

    private static void oneCall(FeastRota x, Method m) {
        Object[] with = new Object[m.getParameterCount()];
        for (int p = 0; p < with.length; p++) {
            with[p] = roll(2) == 0 ? roll(13) : EDGES[roll(EDGES.length)];
        }
        boolean threw = false;
        try {
            m.invoke(x, with);
        } catch (ReflectiveOperationException e) {
            System.out.println(m.getName() + " " + List.of(with) + " threw " + e.getCause());
            threw = true;
        }
        CHECK.due(m.getName() + " throws", threw ? 1 : 0, 0);
    }

    private static long bytesMade() {
        com.sun.management.ThreadMXBean bean =
            (com.sun.management.ThreadMXBean) java.lang.management.ManagementFactory.getThreadMXBean();
        return bean.getCurrentThreadAllocatedBytes();
    }

    private static void nothingIsMade() {
        FeastRota x = Check.of("k1,0,3;b99,1,1;f99,2,2;n365,3,3;d365,4,4;z0,1,1;p10,9;c5,1;");
        int sum = dearCalls(x);
        bytesMade();
        long before = bytesMade();
        for (int i = 0; i < 100; i++) {
            sum += dearCalls(x);
        }
        long made = bytesMade() - before;
        // the counter itself makes something; one object for each call would be far more
        CHECK.due("bytes made by calls: " + made + " " + sum, made < 10000 ? 1 : 0, 1);
    }

    private static int dearCalls(FeastRota x) {
        int sum = x.feed('k') + x.book() + x.alter(0, 2, 3) + x.add(3, 9, 1, 1) + x.undo() + x.law(0, 1) + x.away(0, 3, 4);
        sum += x.feast(0, 0) + x.year(4, 8) + x.day(4, 4, 3) + x.held(0, 4, 2) + x.psalm(4, 366, 2) + x.read(4, 1, 9);
        sum += x.sings(4, 366, 0) + x.duties(0, 4, 366) + x.fair(4) + x.meet(0, 1, 4) + x.springs(4, 99, 0);
        sum += x.often(0, 4, 30, 1) + x.enough(4, 400) + x.best(4) + x.bars(2, 4) + x.image(0) + x.restore(0) + x.count(0);
        return sum;
    }

    private static void words() throws IOException {
        String source = Files.readString(Path.of("src/main/java/FeastRota.java"));
        String code = source.replaceAll("(?s)/\\*.*?\\*/", "").replaceAll("//[^\n]*", "");
        String[] ruledOut = {"throw", "throws", "try", "catch", "synchronized", "assert", "package", "Thread", "Random",
            "Object", "hashCode", "toString", "protected", "Scanner", "HashMap", "Map", "Set", "stream", "Exact", "MAX_VALUE",
            "MIN_VALUE"};
        for (String word : ruledOut) {
            CHECK.due("the word " + word, Pattern.compile("\\b" + word + "\\b").matcher(code).find() ? 1 : 0, 0);
        }
        CHECK.due("lambda", code.contains("->") ? 1 : 0, 0);
        CHECK.due("method reference", code.contains("::") ? 1 : 0, 0);
        CHECK.due("imports", code.split("\\bimport\\b").length - 1, 1);
        CHECK.due("lines of the longest method at most 60", longestMethod(code) <= 60 ? 1 : 0, 1);
    }

    private static int longestMethod(String code) {
        int longest = 0;
        int start = -1;
        String[] lines = code.split("\n");
        Pattern head = Pattern.compile("^( {4}| {8})(public|private|static|int|boolean|void|[A-Z]\\w*\\().*\\(.*\\{$");
        for (int i = 0; i < lines.length; i++) {
            if (head.matcher(lines[i]).matches() && !lines[i].contains(" class ")) {
                start = i;
            }
            if (start >= 0 && (lines[i].equals("    }") || lines[i].equals("        }"))
                && lines[i].indexOf('}') == lines[start].length() - lines[start].stripLeading().length()) {
                longest = Math.max(longest, i - start + 1);
                start = -1;
            }
        }
        return longest;
    }
}
