import java.io.IOException;
import java.lang.management.ManagementFactory;
import java.lang.reflect.Constructor;
import java.lang.reflect.Field;
import java.lang.reflect.Method;
import java.lang.reflect.Modifier;
import java.nio.file.Files;
import java.nio.file.Path;
import java.util.ArrayList;
import java.util.Arrays;
import java.util.HashMap;
import java.util.HashSet;
import java.util.List;
import java.util.Map;
import java.util.Set;
import java.util.TreeSet;
import java.util.regex.Matcher;
import java.util.regex.Pattern;

/** The face of the class, the rules of LANGUAGE.md that can be checked from outside, and what calls allocate. */
public final class FormTests {
    private static final Due due = new Due("FormTests");
    private static final String[] FACE = {"int pair(int,int,int)", "int of(int,int)", "int wall(int,int)", "int walls()",
        "int asks(int,int,int)", "int terms(int,int)", "int feed(int,int,int,int,int)", "int end(int)", "int row()",
        "int brads()", "int law()", "int orders()", "int fault()", "int stopped()", "int force(int)", "int step(int)",
        "int turn(int,int)", "int pause(int)", "int mend(int,int)", "int pass()", "int undo()",
        "long ways(int,int,int,int)", "int ends(int,int,int,int)", "int way(int,int,int)", "int least(int,int)",
        "long chance(int,int,int)", "int within(int,int)", "int couples(int)", "int likest(int)", "int lasts(int,int)",
        "int seen(int,int)", "int forget()", "int canBe()", "int look(int)", "int cutOff()", "long few(int,int)",
        "int compare(int,int,int)", "int years(int,int)", "int drawn(int,int)", "int image(int)", "int back(int)",
        "int count(int)", "int status()"};

    public static void main(String[] args) throws IOException {
        face();
        insides();
        String source = Files.readString(Path.of(System.getProperty("source", "src/main/java/SoleReader.java")));
        words(source);
        Map<String, String> bodies = bodies(bare(source));
        lengths(bodies);
        depth(bodies);
        allocation();
        manyCalls();
        due.close();
    }

    private static void face() {
        due.holds("public and final", Modifier.isPublic(SoleReader.class.getModifiers())
            && Modifier.isFinal(SoleReader.class.getModifiers()));
        Set<String> methods = new TreeSet<>();
        for (Method m : SoleReader.class.getDeclaredMethods()) {
            if (!Modifier.isPrivate(m.getModifiers())) {
                StringBuilder told = new StringBuilder(m.getReturnType().getName() + " " + m.getName() + "(");
                for (Class<?> c : m.getParameterTypes()) {
                    told.append(told.charAt(told.length() - 1) == '(' ? "" : ",").append(c.getName());
                }
                methods.add(told + ")");
                due.holds("public, not static: " + m, Modifier.isPublic(m.getModifiers()) && !Modifier.isStatic(m.getModifiers()));
            }
        }
        due.holds("the methods of the document, and no others: " + methods, methods.equals(new TreeSet<>(Arrays.asList(FACE))));
        due.is("methods", FACE.length, 43);
        documentFace();
        Constructor<?>[] made = SoleReader.class.getDeclaredConstructors();
        due.holds("one public constructor", made.length == 1 && Modifier.isPublic(made[0].getModifiers())
            && made[0].getParameterCount() == 0);
        for (Field f : SoleReader.class.getDeclaredFields()) {
            due.holds("no other field is seen: " + f, Modifier.isPrivate(f.getModifiers()) || f.getName().equals("NONE"));
        }
    }

    /** FACE against 'The public face' of the document. */
    private static void documentFace() {
        String told = Document.section("public final class SoleReader", "```");
        Set<String> methods = new TreeSet<>();
        Matcher m = Pattern.compile("public (int|long) (\\w+)\\(([^)]*)\\);").matcher(told);
        while (m.find()) {
            methods.add(m.group(1) + " " + m.group(2) + "(" + m.group(3).replaceAll("int \\w+", "int").replace(" ", "") + ")");
        }
        due.holds("the document's face: " + methods, told.isEmpty() || methods.equals(new TreeSet<>(Arrays.asList(FACE))));
    }

    private static void insides() {
        List<Class<?>> all = new ArrayList<>(Arrays.asList(SoleReader.class.getDeclaredClasses()));
        for (Class<?> c : all) {
            due.holds("static: " + c, Modifier.isStatic(c.getModifiers()));
        }
        all.add(SoleReader.class);
        due.holds("some twelve classes", all.size() <= 12);
        Set<String> open = new HashSet<>();
        for (String told : FACE) {
            open.add(told.substring(told.indexOf(' ') + 1, told.indexOf('(')));
        }
        for (Class<?> c : all) {
            int fields = 0;
            for (Field f : c.getDeclaredFields()) {
                boolean isStatic = Modifier.isStatic(f.getModifiers());
                fields += isStatic ? 0 : 1;
                due.holds("a static field is final: " + f, !isStatic || Modifier.isFinal(f.getModifiers()));
                List<Class<?>> constants = List.of(int.class, long.class, boolean.class, char.class, String.class,
                    int[].class, long[].class, char[].class, byte[].class);
                due.holds("a constant's type: " + f, !isStatic || constants.contains(f.getType()));
            }
            due.holds("some twenty fields: " + c, fields <= 20);
            for (Method m : c.getDeclaredMethods()) {
                due.holds("seven parameters: " + m, m.getParameterCount() <= 7);
                due.holds("a name of the face: " + m, Modifier.isPublic(m.getModifiers()) || !open.contains(m.getName()));
            }
        }
    }

    private static void words(String source) {
        String bare = bare(source);
        for (String word : new String[] {"throw", "throws", "try", "catch", "finally", "synchronized", "assert", "protected",
            "package", "volatile", "native", "Object", "Random", "Thread", "Runtime", "Exception", "var", "yield"}) {
            due.holds("no '" + word + "'", !Pattern.compile("\\b" + word + "\\b").matcher(bare).find());
        }
        for (String sign : new String[] {"->", "::", "@", "Exact", "equals", "hashCode", "while (true)", "for (;;)"}) {
            due.holds("no '" + sign + "'", !bare.contains(sign));
        }
        Matcher m = Pattern.compile("(?m)^import .*$").matcher(bare);
        while (m.find()) {
            due.holds(m.group(), m.group().equals("import java.util.Arrays;"));
        }
        Set<String> library = Set.of("Arrays.fill", "Arrays.copyOf", "Arrays.copyOfRange", "System.arraycopy", "Math.min",
            "Math.max", "Math.abs", "Integer.bitCount");
        m = Pattern.compile("\\b(Arrays|System|Math|Integer|Long)\\.\\w+").matcher(bare);
        while (m.find()) {
            due.holds("of the library: " + m.group(), library.contains(m.group()));
        }
        for (char c : source.toCharArray()) {
            if (c > 126 || c < 32 && c != '\n') {
                due.holds("a sign " + (int) c, false);
            }
        }
        for (String line : source.split("\n")) {
            due.holds("a line of 120: " + line, line.length() <= 120);
        }
    }

    /** The source without comments and without what stands in quotes. */
    private static String bare(String source) {
        return source.replaceAll("(?s)/\\*.*?\\*/", "").replaceAll("//[^\n]*", "")
            .replaceAll("\"[^\"\n]*\"", "\"\"").replaceAll("'[^'\n]'", "' '");
    }

    /** Methods by their names, those of one name put together. */
    private static Map<String, String> bodies(String bare) {
        Map<String, String> bodies = new HashMap<>();
        Matcher m = Pattern.compile("(?m)^ +(?:(?:private|public|static|final) )*[\\w\\[\\]]+ (\\w+)\\([^)]*\\) \\{").matcher(bare);
        while (m.find()) {
            int at = m.end();
            for (int open = 1; open > 0; at++) {
                open += bare.charAt(at) == '{' ? 1 : bare.charAt(at) == '}' ? -1 : 0;
            }
            if (!Set.of("if", "for", "while", "switch").contains(m.group(1))) {
                bodies.merge(m.group(1), bare.substring(m.end(), at), String::concat);
            }
        }
        due.holds("methods were found", bodies.size() > 100);
        return bodies;
    }

    private static void lengths(Map<String, String> bodies) {
        for (Map.Entry<String, String> e : bodies.entrySet()) {
            due.holds("some sixty lines: " + e.getKey(), e.getValue().split("\n").length <= 60);
        }
    }

    private static void depth(Map<String, String> bodies) {
        Map<String, Set<String>> calls = new HashMap<>();
        for (Map.Entry<String, String> e : bodies.entrySet()) {
            Set<String> to = new TreeSet<>();
            Matcher m = Pattern.compile("\\b(\\w+)\\(").matcher(e.getValue());
            while (m.find()) {
                if (bodies.containsKey(m.group(1))) {
                    to.add(m.group(1));
                }
            }
            calls.put(e.getKey(), to);
        }
        Set<String> again = new TreeSet<>();
        for (String name : calls.keySet()) {
            if (reached(calls, name).contains(name)) {
                again.add(name);
            }
        }
        due.holds("what calls itself: " + again, again.equals(Set.of("readTest", "readBoth", "readPlain", "readSum",
            "readTerm", "readPart", "partFrom")));
        for (String name : calls.keySet()) {
            List<String> chain = longest(calls, again, name, new HashSet<>());
            due.holds("at most eight deep: " + chain, chain.size() <= 8);
        }
    }

    private static Set<String> reached(Map<String, Set<String>> calls, String from) {
        Set<String> all = new HashSet<>();
        List<String> open = new ArrayList<>(calls.get(from));
        while (!open.isEmpty()) {
            String name = open.remove(open.size() - 1);
            if (all.add(name)) {
                open.addAll(calls.get(name));
            }
        }
        return all;
    }

    /** The longest chain of calls from a method, those that call themselves not counted. */
    private static List<String> longest(Map<String, Set<String>> calls, Set<String> again, String name, Set<String> above) {
        List<String> best = new ArrayList<>();
        above.add(name);
        for (String to : calls.get(name)) {
            if (!above.contains(to)) {
                List<String> chain = longest(calls, again, to, above);
                best = chain.size() > best.size() ? chain : best;
            }
        }
        above.remove(name);
        List<String> all = new ArrayList<>();
        if (!again.contains(name)) {
            all.add(name);
        }
        all.addAll(best);
        return all;
    }

    private static long bytes() {
        com.sun.management.ThreadMXBean bean = (com.sun.management.ThreadMXBean) ManagementFactory.getThreadMXBean();
        return bean.getThreadAllocatedBytes(Thread.currentThread().getId());
    }

    private static void allocation() {
        SoleReader x = null;
        for (int i = 0; i < 3; i++) {
            x = new SoleReader();
            dearCalls(x);
        }
        long start = bytes();
        x = new SoleReader();
        long made = bytes() - start;
        due.holds("an object's bytes: " + made, made < 64 * 1024);
        Due.law(x, "wears 1" + Due.times("+x", 20) + ";bars if " + Due.times("not ", 60) + "x=9");
        x.force(0);
        for (int i = 0; i < 6; i++) {
            x.pair(i, 0, 0);
        }
        start = bytes();
        dearCalls(x);
        long used = bytes() - start;
        due.holds("calls' bytes: " + used, used < 4096);
        x.image(0);
        Due.put(x, "wears 1" + Due.times("+x", 49));
        start = bytes();
        x.law();
        used = bytes() - start;
        due.holds("a law's bytes: " + used, used < 4096);
    }

    /** An object is used for at most 512 calls: so many it must answer. */
    private static void manyCalls() {
        SoleReader x = new SoleReader();
        for (int call = 1; call <= 512; call++) {
            due.is("call " + call, x.pass(), call);
        }
        SoleReader y = Due.at(12, 0, "wears 1" + Due.times("+x", 20) + ";bars if " + Due.times("not ", 60) + "x=9");
        for (int call = y.count(0); call < 500; call += 23) {
            dearCalls(y);
        }
        due.is("it still stands", y.count(0), 1);
    }

    private static void dearCalls(SoleReader x) {
        x.feed(0x70617373, 0x2074696d, 0x65732032, 0x30202020, 0x20202020);
        x.orders();
        x.feed(0x70617373, 0x2074696d, 0x65732032, 0x313b3b3b, 0x20202020);
        x.orders();
        x.row();
        x.step(0);
        x.turn(0, 0);
        x.undo();
        x.ways(0, 6, 6, 6);
        x.ends(0, 6, 6, 6);
        x.way(0, 24, 3);
        x.least(0, 24);
        x.chance(0, 24, 30);
        x.within(24, 100);
        x.couples(0);
        x.likest(0);
        x.lasts(0, 0);
        x.look(0);
        x.cutOff();
        x.few(20, 99);
        x.years(5, 60);
        x.image(0);
        x.back(0);
    }
}
