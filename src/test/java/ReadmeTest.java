import java.io.IOException;
import java.lang.reflect.Method;
import java.nio.file.Files;
import java.nio.file.Path;
import java.util.ArrayList;
import java.util.List;
import java.util.Map;
import java.util.Set;
import java.util.TreeMap;
import java.util.TreeSet;
import java.util.regex.Matcher;
import java.util.regex.Pattern;

/** What README.md says: its examples answer so, all calls and refusals stand in it as the document names them. */
public final class ReadmeTest {
    static final Path README = Path.of("README.md"), DOC = Path.of("../shared/DOC.md");
    static final Path MAIN = Path.of("src/main/java/TightHulls.java");
    static final Map<String, Long> REFUSALS = Map.of("NONE", -1L, "BAD", -2L, "STATE", -3L, "FULL", -4L,
        "NOTHING", -11L, "CAST", -12L, "PLACE", -13L, "SIZE", -14L, "NO", Long.MIN_VALUE);
    static final Pattern REFUSAL = Pattern.compile("\\b(NONE|BAD|STATE|FULL|NOTHING|CAST|PLACE|SIZE|NO)\\b");
    static int wrong = 0;

    static void need(boolean so, String what) {
        if (!so) {
            wrong++;
            System.out.println("not so: " + what);
        }
    }

    public static void main(String[] args) throws Exception {
        List<String> lines = Files.readAllLines(README);
        examples(lines);
        calls(lines);
        refusals(lines);
        tests(String.join("\n", lines));
        System.out.println(wrong == 0 ? "all is as README.md says" : wrong + " things are not as README.md says");
        if (wrong != 0) System.exit(1);
    }

    /** The lines of its examples, each with the answer that it tells; every object is made in the example itself. */
    static void examples(List<String> lines) throws Exception {
        Pattern call = Pattern.compile("t\\.(\\w+)\\((.*)\\); +// (-?[0-9]+|[A-Z]+)(?:$|: .*)");
        TightHulls t = null;
        boolean open = false;
        int asked = 0;
        for (String line : lines) {
            if (line.startsWith("```")) {
                open = line.equals("```java");
                t = null;
            } else if (open && line.equals("TightHulls t = new TightHulls();")) {
                t = new TightHulls();
            } else if (open) {
                Matcher m = call.matcher(line);
                need(m.matches() && t != null, "an example with its answer: " + line);
                if (!m.matches() || t == null) continue;
                long due = REFUSALS.containsKey(m.group(3)) ? REFUSALS.get(m.group(3)) : Long.parseLong(m.group(3));
                long got = answer(t, m.group(1), m.group(2));
                need(got == due, line + " (it answers " + got + ")");
                asked++;
            }
        }
        need(asked >= 20, "there are examples: " + asked);
    }

    static long answer(TightHulls t, String name, String told) throws Exception {
        String[] words = told.isEmpty() ? new String[0] : told.split(", ");
        for (Method m : TightHulls.class.getMethods()) {
            if (!m.getName().equals(name) || m.getParameterCount() != words.length) continue;
            Object[] given = new Object[words.length];
            for (int i = 0; i < words.length; i++) {
                boolean sign = words[i].startsWith("'") && words[i].length() == 3;
                long v = sign ? words[i].charAt(1) : Long.parseLong(words[i]);
                if (m.getParameterTypes()[i] == long.class) given[i] = v; else given[i] = (int) v;
            }
            return ((Number) m.invoke(t, given)).longValue();
        }
        need(false, "a call of the class: " + name + "(" + told + ")");
        return 0;
    }

    /** Each call of the class has one line, with the names of what it is told and all that the document lets it refuse with. */
    static void calls(List<String> lines) throws IOException {
        Map<String, String> due = new TreeMap<>();
        Matcher m = Pattern.compile("(?m)^ {4}public (?:int|long) (\\w+)\\(([^)]*)\\) \\{").matcher(Files.readString(MAIN));
        while (m.find()) due.put(m.group(1) + "(" + m.group(2).replaceAll("\\b(int|long) ", "") + ")", m.group(1));
        need(due.size() == 37, "all calls are found: " + due.size());
        Set<String> found = new TreeSet<>();
        for (String line : lines) {
            Matcher row = Pattern.compile("\\| `(\\w+\\(.*?\\))` \\| (.+) \\| ([A-Z, ]*)\\|").matcher(line);
            if (!row.matches()) continue;
            need(found.add(row.group(1)), "one line for " + row.group(1));
            String name = due.get(row.group(1));
            need(name != null, "a call of the class: " + row.group(1));
            if (name == null || !Files.exists(DOC)) continue;
            String named = String.join(", ", named(promise(name)));
            need(named.equals(row.group(3).trim()), name + " refuses with " + named + ", told is " + row.group(3));
        }
        need(found.equals(due.keySet()), "a line for each of " + due.keySet() + ", found are " + found);
    }

    static String promise(String name) throws IOException {
        Matcher m = Pattern.compile("(?s)\n## Promise [0-9]+: " + name + "\n(.*?)(?=\n## |$)").matcher(Files.readString(DOC));
        boolean isThere = m.find();
        need(isThere, "the document promises " + name);
        return isThere ? m.group(1) : "";
    }

    static List<String> named(String text) {
        List<String> found = new ArrayList<>();
        Matcher m = REFUSAL.matcher(text);
        while (m.find()) found.add(m.group());
        return found;
    }

    /** Each refusal has one line with its answer, and the document and the class have the same answer. */
    static void refusals(List<String> lines) throws Exception {
        Set<String> found = new TreeSet<>();
        String doc = Files.exists(DOC) ? Files.readString(DOC) : "";
        for (String line : lines) {
            Matcher row = Pattern.compile("\\| `?(TightHulls\\.)?([A-Z]+)`? \\| `?([-\\w.]+)`? \\| (.+) \\|").matcher(line);
            if (!row.matches()) continue;
            String name = row.group(2);
            need(found.add(name), "one line for " + name);
            Long due = REFUSALS.get(name);
            need(due != null, "a refusal: " + name);
            if (due == null) continue;
            boolean isNo = name.equals("NO");
            need(row.group(3).equals(isNo ? "Long.MIN_VALUE" : "" + due), name + " is " + due + ", told is " + row.group(3));
            boolean ofClass = due >= -4 || isNo;
            need(ofClass == (row.group(1) != null), name + " is told as one of the class just if it is");
            if (ofClass) {
                long has = ((Number) TightHulls.class.getField(name).get(null)).longValue();
                need(has == due, "TightHulls." + name + " is " + due);
            }
            need(doc.isEmpty() || doc.contains(isNo ? "`NO = Long.MIN_VALUE`" : name + " (" + due + ")"), "the document's " + name);
        }
        need(found.equals(REFUSALS.keySet()), "a line for each refusal: " + found);
    }

    /** How the tests are run is told, and each of them is named. */
    static void tests(String text) throws IOException {
        need(text.contains("bash .ci/run"), "how the tests are run");
        try (var files = Files.list(Path.of("src/test/java"))) {
            for (Path file : (Iterable<Path>) files::iterator) {
                String name = file.toString().replace('\\', '/');
                need(text.contains("`" + name + "`"), name + " is named");
            }
        }
    }
}
