import java.io.StringWriter;
import java.lang.reflect.Method;
import java.lang.reflect.Modifier;
import java.net.URI;
import java.net.URL;
import java.net.URLClassLoader;
import java.nio.file.Files;
import java.nio.file.Path;
import java.util.ArrayList;
import java.util.HashSet;
import java.util.List;
import java.util.Set;
import java.util.TreeSet;
import java.util.regex.Matcher;
import java.util.regex.Pattern;
import java.util.stream.Stream;
import javax.tools.JavaCompiler;
import javax.tools.JavaFileObject;
import javax.tools.SimpleJavaFileObject;
import javax.tools.ToolProvider;

/** What README.md tells of the class's use: the calls that it shows compile, and answer as it says. */
public final class ReadmeTest {
    private static final String ANSWER = "(-?\\d+|NONE|true|false|throws \\w+)";
    /** A call, and behind it what it answers, perhaps with words behind a colon. */
    private static final Pattern ANSWERED = Pattern.compile("(.*\\));\\s*// " + ANSWER + "(: .*)?");
    private static final Pattern CALL = Pattern.compile("\\b[a-z]\\w*\\.([a-z]\\w*)\\(");
    private static final Pattern TEST = Pattern.compile("`(\\w+Test)`");

    private final List<String> helpers = new ArrayList<>();
    /** Statements, each with the number of its line ahead of a tab. */
    private final List<String> statements = new ArrayList<>();

    public static void main(String[] args) throws Exception {
        String readme = Files.readString(Path.of("README.md"));
        ReadmeTest test = new ReadmeTest();
        test.gather(readme.split("\n"));
        test.answers();
        test.everyCallIsShown();
        testsAreNamed(readme);
        wrongPageIsSeen();
        Due.end();
    }

    /** A block that begins with 'static' is a helper, any other one goes on where the one ahead ended. */
    private void gather(String[] lines) {
        boolean isCode = false;
        boolean isHelper = false;
        for (int i = 0; i < lines.length; i++) {
            if (lines[i].startsWith("```")) {
                isCode = lines[i].equals("```java");
                isHelper = isCode && i + 1 < lines.length && lines[i + 1].startsWith("static ");
            } else if (isHelper) {
                helpers.add(lines[i]);
            } else if (isCode) {
                statements.add((i + 1) + "\t" + lines[i]);
            }
        }
    }

    private void answers() throws Exception {
        Due.isTrue("README.md shows calls", statements.size() > 48);
        List<String> wants = new ArrayList<>();
        for (String statement : statements) {
            Matcher matcher = ANSWERED.matcher(codeOf(statement));
            boolean isAnswered = matcher.matches();
            Due.isTrue("README.md, line " + statement + ": its answer is told", isAnswered || needsNoAnswer(statement));
            if (isAnswered) {
                wants.add(statement.replace("\t", ": ") + "\t" + matcher.group(2).replace("NONE", "-1"));
            }
        }
        List<String> got = asked();
        Due.same("answers of README.md", wants.size(), got.size());
        for (int i = 0; i < wants.size() && i < got.size(); i++) {
            String[] want = wants.get(i).split("\t");
            Due.isTrue("README.md, line " + want[0] + " answered " + got.get(i), want[1].equals(got.get(i)));
        }
    }

    /** A new object, and calls that answer nothing. */
    private static boolean needsNoAnswer(String statement) {
        String code = codeOf(statement);
        return code.matches("NightMarch (\\w+) = new NightMarch\\(\\);|\\w+\\.(forget|image)\\(\\);");
    }

    private static String codeOf(String statement) {
        return statement.substring(statement.indexOf('\t') + 1);
    }

    private void everyCallIsShown() {
        Set<String> shown = new HashSet<>();
        for (String statement : statements) {
            Matcher matcher = CALL.matcher(codeOf(statement));
            while (matcher.find()) {
                shown.add(matcher.group(1));
            }
        }
        for (Method method : NightMarch.class.getDeclaredMethods()) {
            if (Modifier.isPublic(method.getModifiers())) {
                Due.isTrue("README.md shows " + method.getName(), shown.contains(method.getName()));
            }
        }
    }

    private static void testsAreNamed(String readme) throws Exception {
        Set<String> there = new TreeSet<>();
        try (Stream<Path> files = Files.list(Path.of("src/test/java"))) {
            files.map(file -> file.getFileName().toString()).filter(name -> name.endsWith("Test.java"))
                .forEach(name -> there.add(name.replace(".java", "")));
        }
        Set<String> named = new TreeSet<>();
        Matcher matcher = TEST.matcher(readme);
        while (matcher.find()) {
            named.add(matcher.group(1));
        }
        Due.isTrue("README.md names the tests " + there + ", not " + named, there.equals(named));
        Due.isTrue("README.md says how to run them", readme.contains("    bash .ci/run\n"));
        Due.isTrue(".ci/run can be run", Files.isExecutable(Path.of(".ci/run")));
    }

    /** So that this test can't pass by asking nothing: a wrong answer in the page must be seen. */
    private static void wrongPageIsSeen() throws Exception {
        ReadmeTest other = new ReadmeTest();
        other.gather(new String[] {"```java", "NightMarch x = new NightMarch();", "x.count(0); // 9",
            "x.count(15); // 0", "```"});
        Due.isTrue("a wrong page is seen to be wrong",
            other.asked().equals(List.of("8", "throws NoSuchElementException")));
    }

    /** What the calls answer that the page shows, compiled as it shows them. */
    private List<String> asked() throws Exception {
        StringBuilder source = new StringBuilder("public final class Shown {\n");
        for (String line : helpers) {
            source.append(line).append('\n');
        }
        source.append("static void asShown() {\n");
        for (String statement : statements) {
            source.append(codeOf(statement)).append('\n');
        }
        source.append("}\npublic static void ask(java.util.List<String> answers) {\n");
        for (String statement : statements) {
            Matcher matcher = ANSWERED.matcher(codeOf(statement));
            source.append(matcher.matches() ? asking(matcher.group(1)) : codeOf(statement)).append('\n');
        }
        source.append("}\n}\n");
        List<String> answers = new ArrayList<>();
        Path out = Files.createTempDirectory("shown");
        try {
            if (isCompiled(source.toString(), out)) {
                try (URLClassLoader loader = new URLClassLoader(new URL[] {out.toUri().toURL()})) {
                    loader.loadClass("Shown").getMethod("ask", List.class).invoke(null, answers);
                }
            }
        } finally {
            Files.deleteIfExists(out.resolve("Shown.class"));
            Files.deleteIfExists(out);
        }
        return answers;
    }

    private static String asking(String call) {
        return "try { answers.add(String.valueOf(" + call + ")); } catch (RuntimeException e) {"
            + " answers.add(\"throws \" + e.getClass().getSimpleName()); }";
    }

    private static boolean isCompiled(String source, Path out) {
        JavaCompiler compiler = ToolProvider.getSystemJavaCompiler();
        if (compiler == null) {
            Due.isTrue("java is that of a kit with javac", false);
            return false;
        }
        JavaFileObject file = new SimpleJavaFileObject(URI.create("string:///Shown.java"), JavaFileObject.Kind.SOURCE) {
            @Override
            public CharSequence getCharContent(boolean ignoreErrors) {
                return source;
            }
        };
        StringWriter told = new StringWriter();
        List<String> options = List.of("-Xlint:all", "-d", out.toString(), "-cp", System.getProperty("java.class.path"));
        boolean isDone = compiler.getTask(told, null, null, options, null, List.of(file)).call();
        Due.isTrue("what README.md shows compiles: " + told, isDone && told.toString().isEmpty());
        return isDone;
    }
}
