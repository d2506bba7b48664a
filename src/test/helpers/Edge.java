import java.io.IOException;
import java.nio.file.Files;
import java.nio.file.Path;
import java.util.ArrayList;
import java.util.List;
import java.util.Map;
import java.util.TreeMap;

/**
 * What the tests of the document's edges share. A test names the words of ../shared/DOC.md that it is of, and asks for
 * answers that are due by them; end() fails if words are not the document's, or if words of it are left without a test.
 */
final class Edge {
    static final int NONE = -1, BAD = -2, STATE = -3, FULL = -4, NOT_ANY = -5;
    static final int NOTHING = -11, CAST = -12, PLACE = -13, SIZE = -14;
    static final long NO = Long.MIN_VALUE;
    static final int MIN = Integer.MIN_VALUE, MAX = Integer.MAX_VALUE;

    private static final Path DOC = Path.of("../shared/DOC.md");
    private static final int MOST_SHOWN = 40;
    private static final Map<String, StringBuilder> sections = readSections();
    private static String section = "";
    private static String words = "";
    private static int askedOfWords = 1;
    private static int asked = 0, wrong = 0, sentences = 0;

    private Edge() {
    }

    /** The document's sections by their headings; those of the terms and the head have names of their own. */
    private static Map<String, StringBuilder> readSections() {
        Map<String, StringBuilder> found = new TreeMap<>();
        List<String> lines = new ArrayList<>();
        try {
            if (Files.exists(DOC)) lines = Files.readAllLines(DOC);
        } catch (IOException e) {
            System.out.println(DOC + " can't be read: " + e);
        }
        StringBuilder open = null;
        for (String line : lines) {
            if (line.startsWith("## ")) {
                open = new StringBuilder();
                found.put(line.substring(3).trim(), open);
            } else if (open != null && !line.startsWith("```")) {
                open.append(' ').append(line);
            }
        }
        found.replaceAll((name, text) -> new StringBuilder(plain(text.toString())));
        return found;
    }

    private static String plain(String text) {
        return text.replaceAll("\\s+", " ").trim();
    }

    /** What follows is of this section of the document. */
    static void section(String heading) {
        section = heading;
        if (!sections.isEmpty() && !sections.containsKey(heading)) fail("the document has no section " + heading);
    }

    /** What follows is due by these words of the section. */
    static void words(String quote) {
        endWords();
        sentences++;
        askedOfWords = 0;
        take(quote);
    }

    /** Words of the section that name no edge, or are tested somewhere else. */
    static void noEdge(String quote) {
        endWords();
        askedOfWords = 1;
        take(quote);
    }

    private static void endWords() {
        if (askedOfWords == 0) fail("nothing is asked of the words: " + words);
    }

    /** Words that are quoted are blotted out, so that those left over can be told. */
    private static void take(String quote) {
        words = quote;
        StringBuilder text = sections.get(section);
        if (text == null) return;
        int at = text.indexOf(plain(quote));
        if (at < 0) {
            fail("not in " + section + ", or quoted before: " + quote);
            return;
        }
        for (int i = at; i < at + plain(quote).length(); i++) text.setCharAt(i, '#');
    }

    private static void fail(String what) {
        wrong++;
        if (wrong <= MOST_SHOWN) System.out.println("not so: " + what);
    }

    /** An answer, and the one that is due. */
    static void due(long got, long want) {
        asked++;
        askedOfWords++;
        if (got == want) return;
        fail(place() + " answered " + got + ", due is " + want + " by: " + section + ": " + words);
    }

    static void due(boolean so, String what) {
        asked++;
        askedOfWords++;
        if (!so) fail(place() + " " + what + ", by: " + section + ": " + words);
    }

    private static String place() {
        StringBuilder lines = new StringBuilder();
        for (StackTraceElement e : new Throwable().getStackTrace()) {
            if (!e.getClassName().equals("Edge")) lines.append(lines.length() > 0 ? " < " : "line ").append(e.getLineNumber());
        }
        return lines.toString();
    }

    /** All words of these sections must have been quoted by now. */
    static void allOf(String... headings) {
        for (String heading : headings) {
            StringBuilder text = sections.get(heading);
            if (text == null) continue;
            String left = text.toString().replaceAll("`[^`]*`:?|==== [0-9]", " ").replaceAll("[#\\s:;.,]+", " ").trim();
            if (!left.isEmpty()) fail("words without a test in " + heading + ": " + left);
        }
    }

    static void end() {
        endWords();
        if (sections.isEmpty()) System.out.println("no " + DOC + " here: words are not looked up");
        System.out.println(sentences + " sentences, " + asked + " answers asked");
        System.out.println(wrong == 0 ? "all answers are as due" : wrong + " are not as due");
        if (wrong != 0) System.exit(1);
    }

    // ---- objects to ask

    /** An object with so many points and these distances: of 0 and 1, 0 and 2, .., 1 and 2, .. */
    static TightHulls with(int n, int... gaps) {
        TightHulls t = new TightHulls();
        t.points(n);
        int i = 0;
        for (int x = 0; x < n; x++) {
            for (int y = x + 1; y < n; y++) t.set(x, y, gaps[i++]);
        }
        return t;
    }

    /** So many points, all as far from one another. */
    static TightHulls even(int n, int gap) {
        TightHulls t = new TightHulls();
        t.points(n);
        for (int x = 0; x < n; x++) {
            for (int y = x + 1; y < n; y++) t.set(x, y, gap);
        }
        return t;
    }

    /** Four points in a rectangle: two ways of three, two of four, five across. */
    static TightHulls rectangle() {
        return with(4, 3, 4, 5, 5, 4, 3);
    }

    /** Five points round about: two to those beside, three across; all at 3 hang together by a round of five. */
    static TightHulls pentagon() {
        return with(5, 2, 3, 3, 2, 2, 3, 3, 2, 3, 2);
    }

    /** No table: 0 and 2 are too far from one another. */
    static TightHulls barred() {
        return with(3, 1, 5, 1);
    }

    static void numbers(TightHulls t, int... numbers) {
        for (int p = 0; p < numbers.length; p++) t.function(p, numbers[p]);
    }

    static void map(TightHulls t, int... to) {
        for (int p = 0; p < to.length; p++) t.map(p, to[p]);
    }

    static TightHulls feed(TightHulls t, String text) {
        for (int i = 0; i < text.length(); i++) t.feed(text.charAt(i));
        return t;
    }

    static int read(TightHulls t, String text) {
        return feed(t, text).read();
    }

    /** A tape with a row of this sort that holds these. */
    static void row(TightHulls t, int tape, int sort, long... items) {
        t.tape(tape, sort, items.length);
        for (int i = 0; i < items.length; i++) t.item(tape, i, items[i]);
    }

    // ---- answers that are due together

    static void dueGaps(TightHulls t, int... gaps) {
        int n = t.told(0);
        due(n * (n - 1) / 2, gaps.length);
        int i = 0;
        for (int x = 0; x < n && i < gaps.length; x++) {
            for (int y = x + 1; y < n && i < gaps.length; y++) due(t.of(x, y, 0), gaps[i++]);
        }
    }

    static void dueNumbers(TightHulls t, int... numbers) {
        for (int p = 0; p < numbers.length; p++) due(t.functionOf(p), numbers[p]);
    }

    static void dueMap(TightHulls t, int... to) {
        for (int p = 0; p < to.length; p++) due(t.mapOf(p), to[p]);
    }

    static void dueRow(TightHulls t, int tape, long... items) {
        for (int i = 0; i < items.length; i++) due(t.peek(tape, i), items[i]);
        due(t.peek(tape, items.length), NO);
    }

    static void dueCounts(TightHulls t, int... counts) {
        for (int w = 0; w < counts.length; w++) due(t.count(w), counts[w]);
    }
}
