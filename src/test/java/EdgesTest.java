import java.lang.reflect.InvocationTargetException;
import java.lang.reflect.Method;
import java.nio.file.Files;
import java.nio.file.Path;
import java.util.Arrays;
import java.util.Comparator;

/** Runs each boundary case as a test of its own, and looks whether the document says what the test quotes. */
public final class EdgesTest {
    private static final Class<?>[] HOLDERS = {
        TextEdges.class, ActEdges.class, AskEdges.class, GuessEdges.class, TreadEdges.class,
    };
    private static final int PROMISES = 49;

    private static final int[] tested = new int[PROMISES + 1];
    private static int failed = 0;
    private static int run = 0;
    private static String document;

    public static void main(String[] args) throws Exception {
        document = oneLine(Files.readString(Path.of("../shared/DOC.md")));
        for (Class<?> holder : HOLDERS) {
            Method[] methods = holder.getDeclaredMethods();
            Arrays.sort(methods, Comparator.comparing(Method::getName));
            for (Method method : methods) {
                if (method.isAnnotationPresent(Edge.class)) {
                    runOne(method, method.getAnnotation(Edge.class));
                }
            }
        }
        for (int promise = 1; promise <= PROMISES; promise++) {
            Due.isTrue("promise " + promise + " has a boundary test", tested[promise] > 0);
        }
        System.out.println((run - failed) + " boundary tests hold, " + failed + " don't");
        Due.end();
    }

    private static void runOne(Method method, Edge edge) throws Exception {
        int before = Due.wrong();
        String name = "promise " + Arrays.toString(edge.promise()) + ", " + method.getName();
        for (int promise : edge.promise()) {
            tested[promise]++;
            Due.isTrue(name + ": the document says it there", isSaid(promise, edge.says()));
        }
        try {
            method.invoke(null);
        } catch (InvocationTargetException e) {
            Due.isTrue(name + " threw " + e.getCause(), false);
        }
        run++;
        if (Due.wrong() > before) {
            failed++;
            System.out.println("  in " + name + ": \"" + edge.says() + "\"");
        }
    }

    /** Words of a promise stand under its heading; the terms stand for all promises. */
    private static boolean isSaid(int promise, String words) {
        String told = oneLine(words);
        return part("## Terms", "## Promise 1:").contains(told)
            || part("## Promise " + promise + ":", "## ").contains(told);
    }

    private static String part(String heading, String end) {
        int from = document.indexOf(heading);
        int to = document.indexOf(end, from + heading.length());
        return from < 0 || to < 0 ? "" : document.substring(from, to);
    }

    private static String oneLine(String text) {
        return text.replaceAll("\\s+", " ");
    }
}
