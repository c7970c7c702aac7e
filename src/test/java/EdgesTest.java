import java.lang.reflect.InvocationTargetException;
import java.lang.reflect.Method;
import java.nio.file.Files;
import java.nio.file.Path;
import java.util.Arrays;
import java.util.Comparator;
import java.util.regex.Matcher;
import java.util.regex.Pattern;

/** Runs each boundary case as a test of its own, and looks whether the document says what the test quotes. */
public final class EdgesTest {
    private static final Class<?>[] HOLDERS = {
        TextEdges.class, ActEdges.class, AskEdges.class, GuessEdges.class, TreadEdges.class,
    };
    private static final int PROMISES = 49;
    /** Words by which the document names a boundary; each place of them must be within what a test quotes. */
    private static final Pattern BOUNDARY = Pattern.compile("\\d+ to \\d+|at most|like ones|as few|\\bnone\\b|NONE|nobody"
        + "|without|Exception|more than|fewer|both are one|wrap|camp|-2|empty|gone|stays|False|the first|the least|the last");

    private static final int[] tested = new int[PROMISES + 1];
    private static int failed = 0;
    private static int run = 0;
    private static String document;
    private static boolean[] quoted;

    public static void main(String[] args) throws Exception {
        // What stands in backquotes is the face of the class, which FaceTest looks at.
        document = oneLine(Files.readString(Path.of("../shared/DOC.md")).replaceAll("(?m)^`[^`]+`:", ""));
        quoted = new boolean[document.length()];
        for (Class<?> holder : HOLDERS) {
            Method[] methods = holder.getDeclaredMethods();
            Arrays.sort(methods, Comparator.comparing(Method::getName));
            for (Method method : methods) {
                if (method.isAnnotationPresent(Edge.class)) {
                    runOne(method, method.getAnnotation(Edge.class));
                }
            }
        }
        for (int promise = 1; promise <= PROMISES; promise++) {
            Due.isTrue("promise " + promise + " has a boundary test", tested[promise] > 0);
        }
        lookForBoundaries();
        System.out.println((run - failed) + " boundary tests hold, " + failed + " don't");
        Due.end();
    }

    private static void runOne(Method method, Edge edge) throws Exception {
        int before = Due.wrong();
        String name = "promise " + Arrays.toString(edge.promise()) + ", " + method.getName();
        for (int promise : edge.promise()) {
            tested[promise]++;
            Due.isTrue(name + ": the document says it there", isSaid(promise, edge.says()));
        }
        try {
            method.invoke(null);
        } catch (InvocationTargetException e) {
            Due.isTrue(name + " threw " + e.getCause(), false);
        }
        run++;
        if (Due.wrong() > before) {
            failed++;
            System.out.println("  in " + name + ": \"" + edge.says() + "\"");
        }
    }

    /** Words of a promise stand under its heading; the terms stand for all promises. */
    private static boolean isSaid(int promise, String words) {
        String told = oneLine(words);
        boolean isTerm = quote("## Terms", "## Promise 1:", told);
        return quote("## Promise " + promise + ":", "## ", told) || isTerm;
    }

    private static boolean quote(String heading, String end, String words) {
        int from = document.indexOf(heading);
        int to = document.indexOf(end, from + heading.length());
        boolean isThere = false;
        for (int at = document.indexOf(words, from); at >= 0 && at < to; at = document.indexOf(words, at + 1)) {
            Arrays.fill(quoted, at, at + words.length(), true);
            isThere = true;
        }
        return isThere;
    }

    private static void lookForBoundaries() {
        Matcher matcher = BOUNDARY.matcher(document);
        int end = document.indexOf("## Not promised");
        for (int at = document.indexOf("## Terms"); matcher.find(at) && matcher.start() < end; at = matcher.end()) {
            String around = document.substring(Math.max(0, matcher.start() - 50), Math.min(end, matcher.end() + 30));
            Due.isTrue("a test quotes '" + around + "'", quoted[matcher.start()]);
        }
    }

    private static String oneLine(String text) {
        return text.replaceAll("\\s+", " ");
    }
}
