import java.io.File;
import java.io.IOException;
import java.lang.reflect.Method;
import java.lang.reflect.Modifier;
import java.net.URL;
import java.net.URLClassLoader;
import java.nio.file.Files;
import java.nio.file.Path;
import java.util.ArrayList;
import java.util.List;
import java.util.Map;
import java.util.Set;
import java.util.TreeSet;
import java.util.regex.Matcher;
import java.util.regex.Pattern;
import javax.tools.JavaCompiler;
import javax.tools.ToolProvider;

/** What README.md says of the use of the class and of its tests is so. */
public final class ReadmeTest {
    private static final Map<String, Integer> NAMED = Map.of("BAD", RungByADrum.BAD, "NO", RungByADrum.NO,
            "FULL", RungByADrum.FULL, "NONE", RungByADrum.NONE);
    private static final Pattern ASKED = Pattern.compile("(x\\.\\w+\\(.*\\)); *// (\\d+|BAD|NO|FULL|NONE)(:.*)?");
    private static final Due due = new Due();

    public static void main(String[] args) throws Exception {
        String readme = Files.readString(Path.of("README.md"));
        due.part("README.md, the example");
        example(readme);
        due.part("README.md, the calls");
        calls(readme);
        due.part("README.md, the tests");
        tests(readme);
        due.end();
    }

    // ---- the example

    private static void example(String readme) throws Exception {
        String[] pieces = readme.split("```java\n|```\n");
        due.is("pieces about one example", pieces.length, 3);
        StringBuilder body = new StringBuilder();
        List<String> asked = new ArrayList<>();
        List<Integer> told = new ArrayList<>();
        for (String line : pieces[1].split("\n")) {
            Matcher call = ASKED.matcher(line);
            if (call.matches()) {
                asked.add(call.group(1));
                String answer = call.group(2);
                told.add(NAMED.containsKey(answer) ? NAMED.get(answer) : Integer.valueOf(answer));
                body.append("got.add(").append(call.group(1)).append(");\n");
            } else {
                due.holds("an answer is told: " + line, !line.startsWith("x."));
                body.append(line).append('\n');
            }
        }
        due.holds("answers are told", told.size() > 10);
        List<?> got = answers(body.toString());
        due.is("answers", got.size(), told.size());
        for (int i = 0; i < Math.min(got.size(), told.size()); i++) {
            due.is(asked.get(i), (Integer) got.get(i), told.get(i));
        }
    }

    private static List<?> answers(String body) throws Exception {
        Path place = Files.createTempDirectory("readme");
        Path source = place.resolve("Example.java");
        try {
            Files.writeString(source, "public class Example {\npublic static java.util.List<Integer> run() {\n"
                    + "java.util.List<Integer> got = new java.util.ArrayList<>();\n" + body + "return got;\n}\n}\n");
            JavaCompiler compiler = ToolProvider.getSystemJavaCompiler();
            int failed = compiler.run(null, null, null, "-cp", System.getProperty("java.class.path"),
                    "-d", place.toString(), source.toString());
            due.is("the example compiles", failed, 0);
            if (failed != 0) {
                return List.of();
            }
            try (URLClassLoader loader = new URLClassLoader(new URL[] {place.toUri().toURL()})) {
                return (List<?>) loader.loadClass("Example").getMethod("run").invoke(null);
            }
        } finally {
            for (File file : place.toFile().listFiles()) {
                Files.delete(file.toPath());
            }
            Files.delete(place);
        }
    }

    // ---- the calls

    private static void calls(String readme) {
        Set<String> named = new TreeSet<>();
        Matcher call = Pattern.compile("`(\\w+)\\(([^)`]*)\\)`").matcher(readme);
        while (call.find()) {
            int many = call.group(2).isEmpty() ? 0 : call.group(2).split(",").length;
            due.holds(call.group() + " stands there once", named.add(call.group(1) + " of " + many));
        }
        Set<String> there = new TreeSet<>();
        for (Method method : RungByADrum.class.getDeclaredMethods()) {
            if (Modifier.isPublic(method.getModifiers())) {
                there.add(method.getName() + " of " + method.getParameterCount());
            }
        }
        due.holds("calls " + named + " are " + there, named.equals(there));
    }

    // ---- the tests

    private static void tests(String readme) throws IOException {
        Set<String> named = new TreeSet<>();
        Matcher test = Pattern.compile("`(\\w+Test|PlainModel)`").matcher(readme);
        while (test.find()) {
            named.add(test.group(1) + ".java");
        }
        Set<String> there = new TreeSet<>();
        for (String file : new File("src/test/java").list()) {
            if (file.endsWith("Test.java") || file.equals("PlainModel.java")) {
                there.add(file);
            }
        }
        due.holds("tests " + named + " are " + there, named.equals(there));
        due.holds(".ci/run can be run", Files.isExecutable(Path.of(".ci/run")));
        due.holds(".ci/run is named", readme.contains("\n    .ci/run\n"));
        due.holds("the class stands where it is said", readme.contains("`src/main/java/RungByADrum.java`")
                && Files.isRegularFile(Path.of("src/main/java/RungByADrum.java")));
    }
}
