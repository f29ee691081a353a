import java.io.IOException;
import java.lang.reflect.Field;
import java.lang.reflect.Method;
import java.lang.reflect.Modifier;
import java.nio.file.Files;
import java.nio.file.Path;
import java.util.ArrayList;
import java.util.Arrays;
import java.util.List;
import java.util.Map;
import java.util.Random;
import java.util.Set;
import java.util.TreeMap;
import java.util.TreeSet;
import java.util.regex.Matcher;
import java.util.regex.Pattern;

/** What of shared/LANGUAGE.md a program can look at, and the room that the dearest calls take. */
public final class RulesTest {
    private static final String FACE =
        "figure/1 sticks/2 terms/2 on/5 off/2 of/3 feed/5 end/1 row/1 torn/0 outline/2 play/0 fault/0 shadow/3 seen/3 "
            + "common/3 holds/3 holdings/1 least/1 holder/2 passed/1 fewest/0 barred/1 made/2 who/3 sheet/1 copy/1 "
            + "show/1 slipped/1 image/1 back/1 count/1 status/0";
    private static int wrong = 0;

    public static void main(String[] args) throws IOException {
        face();
        names();
        String text = Files.readString(Path.of("src/main/java/ClothPlay.java"));
        source(text);
        depths(text);
        extremes();
        room();
        System.out.println(wrong == 0 ? "the rules are kept" : wrong + " rules are not kept");
        System.exit(wrong == 0 ? 0 : 1);
    }

    private static void must(boolean is, String what) {
        if (!is) {
            wrong++;
            System.out.println("not kept: " + what);
        }
    }

    private static void face() {
        Set<String> have = new TreeSet<>();
        for (Method m : ClothPlay.class.getDeclaredMethods()) {
            if (!Modifier.isPrivate(m.getModifiers())) {
                must(Modifier.isPublic(m.getModifiers()) && m.getReturnType() == int.class, "public int " + m);
                have.add(m.getName() + "/" + m.getParameterCount());
            }
        }
        must(have.equals(new TreeSet<>(Arrays.asList(FACE.split(" ")))), "the face: " + have);
        for (Field f : ClothPlay.class.getDeclaredFields()) {
            must(Modifier.isPrivate(f.getModifiers()) || f.getName().equals("NONE"), "private: " + f);
        }
        must(Modifier.isFinal(ClothPlay.class.getModifiers()), "final");
        must(ClothPlay.class.getDeclaredConstructors().length == 1, "one constructor");
        must(ClothPlay.class.getDeclaredClasses().length <= 12, "some twelve classes");
    }

    private static void names() {
        for (Class<?> c : classes()) {
            int fields = 0;
            for (Field f : c.getDeclaredFields()) {
                if (Modifier.isStatic(f.getModifiers())) {
                    must(Modifier.isFinal(f.getModifiers()), "static final: " + f);
                } else {
                    fields++;
                }
            }
            must(fields <= 20, "twenty fields: " + c);
            must(c == ClothPlay.class || Modifier.isStatic(c.getModifiers()), "static class: " + c);
            for (Method m : c.getDeclaredMethods()) {
                must(m.getParameterCount() <= 7, "seven parameters: " + m);
                boolean face = FACE.contains(m.getName() + "/");
                must(!face || Modifier.isPublic(m.getModifiers()), "a name of the face: " + m);
            }
        }
    }

    private static List<Class<?>> classes() {
        List<Class<?>> all = new ArrayList<>(Arrays.asList(ClothPlay.class.getDeclaredClasses()));
        all.add(ClothPlay.class);
        return all;
    }

    private static void source(String text) {
        String bare = text.replaceAll("(?s)/\\*.*?\\*/", "").replaceAll("//[^\n]*", "").replaceAll("\"[^\"\n]*\"", "\"\"");
        String[] banned = {
            "throw", "throws", "try", "catch", "synchronized", "assert", "->", "::", "Exact\\(", "MIN_VALUE", "MAX_VALUE",
            "System\\.(?!arraycopy)", "Math\\.(?!min|max|abs)", "Arrays\\.(?!fill)", "instanceof", "double", "float"};
        for (String b : banned) {
            boolean word = b.matches("[a-zA-Z]+");
            Matcher m = Pattern.compile(word ? "\\b" + b + "\\b" : b).matcher(bare);
            must(!m.find(), "no " + b);
        }
        must(text.chars().allMatch(c -> c == '\n' || c >= 32 && c < 127), "plain signs");
        Matcher imports = Pattern.compile("(?m)^import .*$").matcher(bare);
        while (imports.find()) {
            must(imports.group().equals("import java.util.Arrays;"), imports.group());
        }
        int start = 0;
        String[] lines = text.split("\n");
        for (int k = 0; k < lines.length; k++) {
            must(lines[k].length() <= 120, "line " + (k + 1) + " is long");
            if (lines[k].matches(" {4,8}(private |public |static )*[\\w\\[\\]]+ \\w+\\(.*\\) \\{")) {
                start = k;
            }
            if (lines[k].matches(" {4,8}\\}")) {
                must(k - start < 60 || !lines[start].contains("(") || lines[k].length() == 5, "method at line " + (start + 1));
            }
        }
    }

    /** Rule 11: no row of calls in which each method stands once is longer than eight. */
    private static void depths(String text) {
        Map<String, Set<String>> called = callsIn(text);
        must(called.size() > 100, "methods are found: " + called.size());
        for (String start : called.keySet()) {
            List<String> longest = longestFrom(start, called, new ArrayList<>());
            must(longest.size() <= 8, "calls at most eight deep: " + longest);
        }
    }

    /** By Class.method the methods it calls; behind a dot, where the class is not written, all with that name. */
    private static Map<String, Set<String>> callsIn(String text) {
        Map<String, String> bodies = new TreeMap<>();
        String in = "ClothPlay";
        String method = null;
        for (String line : text.split("\n")) {
            Matcher inner = Pattern.compile("^ {4}private static final class (\\w+) .*").matcher(line);
            Matcher head = Pattern.compile("^( {4}| {8})(?:[a-z]+ )*[\\w\\[\\]]+ (\\w+)\\(.*\\) \\{$").matcher(line);
            if (inner.matches()) {
                in = inner.group(1);
            } else if (head.matches() && head.group(1).length() == (in.equals("ClothPlay") ? 4 : 8)) {
                method = in + "." + head.group(2);
                bodies.put(method, "");
            } else if (method != null) {
                bodies.put(method, bodies.get(method) + line.replaceAll("//.*", "") + "\n");
            }
        }
        Map<String, Set<String>> called = new TreeMap<>();
        for (String from : bodies.keySet()) {
            Set<String> to = new TreeSet<>();
            Matcher call = Pattern.compile("(\\.?)\\b([a-z]\\w*)\\(").matcher(bodies.get(from));
            while (call.find()) {
                for (String other : bodies.keySet()) {
                    boolean near = other.equals(from.substring(0, from.indexOf('.') + 1) + call.group(2))
                        || other.equals("ClothPlay." + call.group(2));
                    boolean far = !call.group(1).isEmpty() && other.endsWith("." + call.group(2));
                    if (call.group(1).isEmpty() ? near : far) {
                        to.add(other);
                    }
                }
            }
            called.put(from, to);
        }
        return called;
    }

    private static List<String> longestFrom(String at, Map<String, Set<String>> called, List<String> ahead) {
        List<String> row = new ArrayList<>(ahead);
        row.add(at);
        List<String> longest = row;
        for (String next : called.get(at)) {
            if (!row.contains(next)) {
                List<String> found = longestFrom(next, called, row);
                longest = found.size() > longest.size() ? found : longest;
            }
        }
        return longest;
    }

    /** No call throws, whatever it is given in whatever state. */
    private static void extremes() {
        int[] odd = {
            Integer.MIN_VALUE, Integer.MIN_VALUE + 1, -64, -2, -1, 0, 1, 2, 3, 5, 6, 7, 8, 11, 12, 15, 16, 31, 32, 33, 63,
            64, 400, 1000000, 1000001, Integer.MAX_VALUE};
        Random random = new Random(3);
        Method[] methods = Arrays.stream(ClothPlay.class.getDeclaredMethods())
            .filter(m -> Modifier.isPublic(m.getModifiers()))
            .sorted((a, b) -> a.getName().compareTo(b.getName()))
            .toArray(Method[]::new);
        for (int run = 0; run < 400; run++) {
            ClothPlay p = new ClothPlay();
            for (int call = 0; call < 512; call++) {
                Method m = methods[random.nextInt(methods.length)];
                Object[] with = new Object[m.getParameterCount()];
                for (int k = 0; k < with.length; k++) {
                    with[k] = random.nextInt(3) == 0 ? odd[random.nextInt(odd.length)] : random.nextInt(8);
                }
                try {
                    m.invoke(p, with);
                } catch (ReflectiveOperationException thrown) {
                    must(false, m.getName() + Arrays.toString(with) + " threw " + thrown.getCause());
                    return;
                }
            }
        }
    }

    /** The dearest calls over and over: what they make is made once. */
    private static void room() {
        com.sun.management.ThreadMXBean memory =
            (com.sun.management.ThreadMXBean) java.lang.management.ManagementFactory.getThreadMXBean();
        ClothPlay warm = new ClothPlay();
        warm.least(0);
        long id = Thread.currentThread().getId();
        long before = memory.getThreadAllocatedBytes(id);
        ClothPlay p = new ClothPlay();
        int calls = 0;
        for (int f = 0; f < 6; f++) {
            p.figure(1);
            p.feed(0x03030101 + f, 0, 0, 0, 0);
            p.row(f);
            for (int b = 0; b < 12; b++) {
                p.on(f, b, f, b % 3, 8);
                calls++;
            }
            calls += 3;
        }
        p.terms(3, 1);
        p.terms(4, 6);
        while (calls < 500) {
            p.terms(5, calls % 32);
            p.least(1);
            p.copy(calls % 12);
            p.made(63, 0);
            p.image(calls % 2);
            p.back(calls % 2);
            p.feed(0x70617373, 0x20312020, 0x20202020, 0x20202020, 0x20202020);
            calls += 7;
        }
        long bytes = memory.getThreadAllocatedBytes(id) - before;
        must(bytes < 1_500_000, "little is made: " + bytes + " bytes");
    }
}
