import java.io.IOException;
import java.lang.reflect.Method;
import java.lang.reflect.Modifier;
import java.net.URL;
import java.net.URLClassLoader;
import java.nio.file.DirectoryStream;
import java.nio.file.Files;
import java.nio.file.Path;
import java.util.ArrayList;
import java.util.List;
import java.util.function.Supplier;
import java.util.regex.Matcher;
import java.util.regex.Pattern;
import javax.tools.ToolProvider;

/** README.md: its Java lines answer what they say, its codes are the document's, and nothing is left out. */
public final class ReadmeTest {
    private static final Path README = Path.of("README.md");
    private static final Path DOCUMENT = Path.of("../shared/DOC.md");
    private static final Pattern ANSWER = Pattern.compile("(trace\\..*\\)); +// answers ([-.\\w]*\\w).*");
    private static final String PROGRAM = "ReadmeProgram";

    public static void main(String[] args) throws Exception {
        Check check = new Check();
        linesAnswerWhatTheySay(check);
        codesAreThoseOfTheDocument(check);
        everyMethodIsUsed(check);
        everyTestIsNamed(check);
        check.finish();
    }

    /** The lines of all blocks of this kind, in their order. */
    private static List<String> linesOf(Path file, String kind) throws IOException {
        List<String> lines = new ArrayList<>();
        boolean inside = false;
        for (String line : Files.readAllLines(file)) {
            if (line.startsWith("```")) {
                inside = line.equals("```" + kind);
            } else if (inside) {
                lines.add(line);
            }
        }
        return lines;
    }

    private static void linesAnswerWhatTheySay(Check check) throws Exception {
        List<String> calls = new ArrayList<>();
        StringBuilder body = new StringBuilder();
        for (String line : linesOf(README, "java")) {
            Matcher answer = ANSWER.matcher(line);
            if (answer.matches()) {
                calls.add(answer.group(1));
                body.append("answers.add(new int[] {" + answer.group(1) + ", " + answer.group(2) + "});\n");
            } else {
                body.append(line + "\n");
            }
        }
        List<int[]> answers = answersOf(body.toString());
        check.due("the number of lines that tell an answer", answers.size(), calls.size());
        for (int i = 0; i < calls.size(); i++) {
            check.due(calls.get(i), answers.get(i)[0], answers.get(i)[1]);
        }
    }

    private static List<int[]> answersOf(String body) throws Exception {
        Path folder = Files.createTempDirectory("readme");
        Path source = folder.resolve(PROGRAM + ".java");
        Files.writeString(source, "import java.util.*;\n"
            + "public final class " + PROGRAM + " implements java.util.function.Supplier<List<int[]>> {\n"
            + "public List<int[]> get() {\nList<int[]> answers = new ArrayList<>();\n"
            + body + "return answers;\n}\n}\n");
        String classes = System.getProperty("java.class.path");
        int failed = ToolProvider.getSystemJavaCompiler().run(
            null, null, null, "-cp", classes, "-d", folder.toString(), source.toString());
        if (failed != 0) {
            throw new IllegalStateException("the Java lines of README.md do not compile");
        }
        try (URLClassLoader loader = new URLClassLoader(new URL[] {folder.toUri().toURL()})) {
            Object program = loader.loadClass(PROGRAM).getDeclaredConstructor().newInstance();
            @SuppressWarnings("unchecked")
            Supplier<List<int[]>> lines = (Supplier<List<int[]>>) program;
            return lines.get();
        }
    }

    private static void codesAreThoseOfTheDocument(Check check) throws IOException {
        boolean same = linesOf(README, "text").equals(linesOf(DOCUMENT, "text"));
        check.due("the table of codes is the document's", same ? 1 : 0, 1);
    }

    private static void everyMethodIsUsed(Check check) throws IOException {
        String lines = String.join("\n", linesOf(README, "java"));
        for (Method method : BefungeTrace.class.getDeclaredMethods()) {
            if (Modifier.isPublic(method.getModifiers())) {
                String call = "trace." + method.getName() + "(";
                check.due("'" + call + "' in the Java lines", lines.contains(call) ? 1 : 0, 1);
            }
        }
    }

    private static void everyTestIsNamed(Check check) throws IOException {
        String readme = Files.readString(README);
        try (DirectoryStream<Path> tests = Files.newDirectoryStream(Path.of("src/test/java"), "*Test.java")) {
            for (Path test : tests) {
                String name = test.getFileName().toString().replace(".java", "");
                check.due(name + " in the table of tests", readme.contains("| `" + name + "` |") ? 1 : 0, 1);
            }
        }
    }
}
