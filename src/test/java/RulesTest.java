import java.io.IOException;
import java.lang.management.ManagementFactory;
import java.lang.reflect.Constructor;
import java.lang.reflect.Field;
import java.lang.reflect.InvocationTargetException;
import java.lang.reflect.Method;
import java.lang.reflect.Modifier;
import java.nio.file.Files;
import java.nio.file.Path;
import java.util.ArrayList;
import java.util.Arrays;
import java.util.List;
import java.util.Random;
import java.util.Set;
import java.util.TreeSet;
import java.util.regex.Matcher;
import java.util.regex.Pattern;

/** The rules of LANGUAGE.md that a test can look at: the face, the words used, no throw by the machine, no new objects. */
public final class RulesTest {
    static final String[] FACE = {
        "int points(int)", "int set(int,int,int)", "int shorten()", "int function(int,int)", "int least(int,int)",
        "int map(int,int)", "int feed(int)", "int read()", "int of(int,int,int)", "int told(int)", "int functionOf(int)",
        "int mapOf(int)", "int middle(int,int,int)", "int corners()", "int at(int,int)", "int corner(int,int)",
        "int tight(int,int,int)", "int two(int,int,int)", "int eye(int)", "int weight(int)", "int split(int,int)",
        "int see(int,int)", "int fits(int,int,int)", "long odds(int,int,int)", "long mean(int)", "int event(int,int)",
        "int after(int)", "int book(int,int,int)", "int looked()", "int judge(int,int)", "int image()", "int undo()",
        "int count(int)", "int tape(int,int,int)", "int item(int,int,long)", "long peek(int,int)",
        "int shift(int,int,int,int,int)"};
    static final Set<String> LIBRARY = Set.of("Math.max", "Math.min", "Math.abs", "Integer.bitCount", "Long.MIN_VALUE",
        "System.arraycopy");
    static int wrong = 0;

    static void need(boolean so, String what) {
        if (!so) {
            wrong++;
            System.out.println("not so: " + what);
        }
    }

    public static void main(String[] args) throws Exception {
        face();
        inside();
        words();
        shapes();
        nothingThrown();
        nothingMade();
        callDepth();
        System.out.println(wrong == 0 ? "all rules are kept" : wrong + " rules are not kept");
        if (wrong != 0) System.exit(1);
    }

    static void face() throws Exception {
        Class<?> c = TightHulls.class;
        need(Modifier.isPublic(c.getModifiers()) && Modifier.isFinal(c.getModifiers()), "public and final");
        Set<String> found = new TreeSet<>();
        for (Method m : c.getDeclaredMethods()) {
            if (Modifier.isPrivate(m.getModifiers())) continue;
            StringBuilder s = new StringBuilder(m.getReturnType() + " " + m.getName() + "(");
            for (Class<?> p : m.getParameterTypes()) s.append(s.charAt(s.length() - 1) == '(' ? "" : ",").append(p);
            found.add(s + ")");
            need(m.getModifiers() == Modifier.PUBLIC, m + " is public alone");
        }
        need(found.equals(new TreeSet<>(Arrays.asList(FACE))), "the face is that of the document: " + found);
        need(c.getDeclaredConstructors().length == 1, "one constructor");
        for (Constructor<?> k : c.getDeclaredConstructors()) need(k.getModifiers() == Modifier.PUBLIC, "it is public");
        Set<String> constants = new TreeSet<>();
        for (Field f : c.getDeclaredFields()) {
            if (Modifier.isPrivate(f.getModifiers())) continue;
            need(f.getModifiers() == (Modifier.PUBLIC | Modifier.STATIC | Modifier.FINAL), f + " is a constant");
            constants.add(f.getType() + " " + f.getName() + " " + f.get(null));
        }
        need(constants.equals(Set.of("int NONE -1", "int BAD -2", "int STATE -3", "int FULL -4", "long NO " + Long.MIN_VALUE)),
            "the constants are those of the document: " + constants);
    }

    static void inside() {
        Set<String> names = new TreeSet<>();
        for (String sign : FACE) names.add(sign.substring(sign.indexOf(' ') + 1, sign.indexOf('(')));
        List<Class<?>> all = new ArrayList<>(Arrays.asList(TightHulls.class.getDeclaredClasses()));
        for (Class<?> c : all) {
            need(Modifier.isStatic(c.getModifiers()) && !Modifier.isPublic(c.getModifiers()), c + " is static, not public");
        }
        all.add(TightHulls.class);
        need(all.size() <= 12, "some twelve classes");
        for (Class<?> c : all) {
            int state = 0;
            for (Field f : c.getDeclaredFields()) {
                if (!Modifier.isStatic(f.getModifiers())) state++;
                else need(Modifier.isFinal(f.getModifiers()), f + " is final");
            }
            need(state <= 20, c + " has some twenty fields");
            for (Method m : c.getDeclaredMethods()) {
                need(m.getParameterCount() <= 7, m + " takes at most seven");
                if (c != TightHulls.class || Modifier.isPrivate(m.getModifiers())) {
                    need(!names.contains(m.getName()), m + " bears no name of the face");
                }
            }
        }
    }

    static String source() throws IOException {
        return Files.readString(Path.of("src/main/java/TightHulls.java"));
    }

    static String bare() throws IOException {
        return source().replaceAll("(?s)/\\*.*?\\*/", " ").replaceAll("//[^\n]*", " ");
    }

    static void words() throws IOException {
        need(source().chars().allMatch(c -> c < 128), "plain signs alone");
        String code = bare();
        String[] no = {"throw", "throws", "try", "catch", "finally", "synchronized", "assert", "import", "package",
            "instanceof", "var", "yield", "record", "volatile", "transient", "native", "strictfp", "Object",
            "equals", "hashCode", "toString", "double", "float", "Thread", "protected"};
        for (String word : no) need(!Pattern.compile("\\b" + word + "\\b").matcher(code).find(), "no word " + word);
        need(!code.contains("->") && !code.contains("::") && !code.contains("\"") && !code.contains("@"), "no such sign");
        Matcher m = Pattern.compile("\\b(Math|Integer|Long|System|Arrays|String|StringBuilder|Character|List)\\.(\\w+)").matcher(code);
        while (m.find()) need(LIBRARY.contains(m.group()), m.group() + " is of the library that is used");
        need(!Pattern.compile("while \\(true\\)|for \\(;;").matcher(code).find(), "loops end");
        for (String body : methods(code)) {
            boolean loops = body.contains("for (") || body.contains("while (");
            need(!body.contains("new ") || !loops || body.contains("new long[MOST][LONGEST]"), "nothing is made in loops");
        }
    }

    /** The methods and constructors, each from its first line to its last one. */
    static List<String> methods(String code) {
        List<String> found = new ArrayList<>();
        Matcher m = Pattern.compile("(?m)^( {4}| {8})(?! |for |if |while |switch |do )[^\n;=]*\\([^\n;]*\\) \\{\n").matcher(code);
        while (m.find()) {
            int end = code.indexOf("\n" + m.group(1) + "}", m.start());
            found.add(code.substring(m.start(), end));
        }
        return found;
    }

    static void shapes() throws IOException {
        List<String> all = methods(bare());
        int declared = 0;
        List<Class<?>> classes = new ArrayList<>(Arrays.asList(TightHulls.class.getDeclaredClasses()));
        classes.add(TightHulls.class);
        for (Class<?> c : classes) declared += c.getDeclaredMethods().length + c.getDeclaredConstructors().length;
        need(all.size() == declared, "all methods are looked at: " + all.size() + " of " + declared);
        for (String body : all) {
            need(body.lines().count() <= 60, "a short method: " + body.lines().findFirst().get().trim());
        }
    }

    static final long[] SIGNS = {Integer.MIN_VALUE, -100, -2, -1, 0, 1, 2, 3, 4, 5, 6, 7, 8, 10, 12, 31, 37, 40, 60, 61, 99,
        128, 1000, Integer.MAX_VALUE};

    static void states(TightHulls t, int which) {
        if (which == 0) return;
        t.points(3 + which % 3);
        for (int x = 0; x < 5; x++) {
            for (int y = x + 1; y < 5; y++) t.set(x, y, which == 1 ? 0 : which == 2 ? 40 : (x * 7 + y * 11 * which) % 41);
        }
        if (which % 2 == 0) t.shorten();
        t.image();
        for (int i = 0; i < 9; i++) {
            t.see(2 + 2 * (i % 3), i);
            t.event(i % 3, 0);
            t.book(i % 3, 1 + i % 3, i);
        }
        for (int k = 0; k < 6; k++) t.tape(k, k - 1, 7 * k);
    }

    /** Each call with all sorts of numbers, in states of all sorts: whatever it answers, it throws nothing. */
    static void nothingThrown() throws IllegalAccessException {
        Random random = new Random(5);
        for (int which = 0; which < 9; which++) {
            for (Method m : TightHulls.class.getMethods()) {
                if (m.getDeclaringClass() != TightHulls.class) continue;
                int many = m.getParameterCount();
                int turns = many == 0 ? 1 : many == 1 ? SIGNS.length : 600;
                TightHulls t = new TightHulls();
                states(t, which);
                for (int turn = 0; turn < turns; turn++) {
                    Object[] told = new Object[many];
                    for (int i = 0; i < many; i++) {
                        long v = many == 1 ? SIGNS[turn] : SIGNS[random.nextInt(SIGNS.length)];
                        if (m.getParameterTypes()[i] == long.class) told[i] = v; else told[i] = (int) v;
                    }
                    try {
                        m.invoke(t, told);
                    } catch (InvocationTargetException e) {
                        need(false, m.getName() + Arrays.toString(told) + " in state " + which + " throws " + e.getCause());
                        return;
                    }
                }
            }
        }
    }

    static long useAll(TightHulls t, int turn) {
        long sum = t.points(3 + turn % 3);
        for (int x = 0; x < 5; x++) {
            for (int y = x + 1; y < 5; y++) sum += t.set(x, y, (x * 7 + y * 11 * turn) % 41);
        }
        sum += t.image() + t.shorten() + t.corners() + t.undo() + t.shorten() + t.see(2, 3) + t.event(turn % 3, 0);
        for (int i = 0; i < 14; i++) {
            sum += t.told(i) + t.functionOf(i) + t.mapOf(i) + t.corner(i, i % 3) + t.two(i, 1, i % 3) + t.at(i, i % 5);
            sum += t.split(i, i % 2) + t.weight(2 * i) + t.of(i % 5, 1, i % 3) + t.after(i % 3) + t.eye(i % 5);
            sum += t.odds(i % 5, 1, i % 2) + t.mean(i % 2) + t.tape(i % 6, i % 5, i) + t.item(i % 6, 0, i) + t.peek(i % 6, 0);
            sum += t.shift(i % 6, 0, i % 6, 1, 2) + t.judge(i % 6, 0) + t.looked() + t.book(0, 1, i) + t.count(i % 4);
            sum += t.tight(i, 0, 1) + t.middle(0, 1, 2) + t.least(i % 2, i % 5) + t.function(i % 5, i) + t.map(i % 5, i % 4);
        }
        String text = "n5;d0119;s12 3;m2;h";
        for (int i = 0; i < text.length(); i++) sum += t.feed(text.charAt(i));
        return sum + t.read() + t.fits(0, 1, turn % 2);
    }

    /** The room that all calls share is small: no call makes an object. */
    static void nothingMade() {
        com.sun.management.ThreadMXBean threads = (com.sun.management.ThreadMXBean) ManagementFactory.getThreadMXBean();
        TightHulls t = new TightHulls();
        long sum = 0;
        for (int turn = 0; turn < 50; turn++) sum += useAll(t, turn);
        long id = Thread.currentThread().getId();
        long least = Long.MAX_VALUE;
        for (int again = 0; again < 20; again++) {
            long before = threads.getThreadAllocatedBytes(id);
            long between = threads.getThreadAllocatedBytes(id);
            sum += useAll(t, again);
            long behind = threads.getThreadAllocatedBytes(id);
            least = Math.min(least, behind - between - (between - before));
        }
        need(least <= 0, "calls make no objects, but " + least + " bytes (" + sum + ")");
    }

    /** Calls go at most eight deep: from a call of the face to the last call of ours, recursion left out. */
    static void callDepth() throws IOException {
        String code = bare();
        java.util.Map<String, Set<String>> calls = new java.util.TreeMap<>();
        for (String body : methods(code)) {
            String first = body.lines().findFirst().get();
            Matcher name = Pattern.compile("(\\w+)\\(").matcher(first);
            if (!name.find()) continue;
            Set<String> to = calls.computeIfAbsent(name.group(1), k -> new TreeSet<>());
            Matcher m = Pattern.compile("(\\w+)\\(").matcher(body.substring(first.length()));
            while (m.find()) to.add(m.group(1));
        }
        for (String sign : FACE) {
            String name = sign.substring(sign.indexOf(' ') + 1, sign.indexOf('('));
            List<String> way = deepest(calls, name, new ArrayList<>());
            need(way.size() <= 8, "at most eight deep: " + way);
        }
    }

    static List<String> deepest(java.util.Map<String, Set<String>> calls, String from, List<String> open) {
        List<String> most = new ArrayList<>();
        if (!calls.containsKey(from) || open.contains(from)) return most;
        open.add(from);
        for (String to : calls.get(from)) {
            List<String> way = deepest(calls, to, open);
            if (way.size() > most.size()) most = way;
        }
        open.remove(from);
        most.add(0, from);
        return most;
    }
}
