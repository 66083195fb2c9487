import java.io.File;
import java.io.IOException;
import java.lang.reflect.Method;
import java.lang.reflect.Modifier;
import java.net.URL;
import java.net.URLClassLoader;
import java.nio.file.Files;
import java.nio.file.Path;
import java.util.ArrayList;
import java.util.Iterator;
import java.util.List;
import java.util.regex.Matcher;
import java.util.regex.Pattern;
import javax.tools.ToolProvider;

/** What README.md shows: its Java, taken together as one program, compiles and answers as its comments say. */
final class ReadmeTests {
    private static final Path PAGE = Path.of("README.md");
    private static final String EXAMPLE = "ReadmeExample";
    /** A call of the example's object x, and the number that its comment begins with. */
    private static final Pattern ANSWERED = Pattern.compile("(x\\.\\w+\\(.*\\)); +// (-?\\d+)\\b.*");
    private static final String[] CONSTANTS = {
        "`BAD` | -1", "`FULL` | -2", "`STATE` | -4", "`SPENT` | -6", "`FINDING` | -3", "`NONE` | -9",
        "1 | NOTHING", "2 | BEYOND", "3 | UNLIKE", "4 | NOUGHT", "5 | SIZE",
    };

    static void allOfTheExampleAnswersSo() throws Exception {
        List<String> program = new ArrayList<>();
        int answered = 0;
        for (String line : javaLines()) {
            Matcher call = ANSWERED.matcher(line);
            if (call.matches()) {
                answered++;
                String name = call.group(1).replace("\"", "'");
                program.add("answers.add(\"README.md: " + name + "\");");
                program.add("answers.add((long) " + call.group(1) + ");");
                program.add("answers.add(" + call.group(2) + "L);");
            } else if (line.startsWith("x.")) {
                Check.fail("README.md: no answer behind '" + line + "'");
            } else {
                program.add(line);
            }
        }
        if (answered == 0) {
            Check.fail("README.md shows no call with its answer");
        }
        Iterator<?> answers = run(program).iterator();
        while (answers.hasNext()) {
            Check.due((String) answers.next(), (long) answers.next(), (long) answers.next());
        }
    }

    private static List<String> javaLines() throws IOException {
        List<String> lines = new ArrayList<>();
        boolean within = false;
        for (String line : Files.readAllLines(PAGE)) {
            if (line.startsWith("```")) {
                within = line.equals("```java");
            } else if (within) {
                lines.add(line);
            }
        }
        return lines;
    }

    /** Answers, of each call with an answer behind it: the call, what it answered, what is due. */
    private static List<?> run(List<String> program) throws Exception {
        Path out = Files.createTempDirectory("readme");
        Path source = out.resolve(EXAMPLE + ".java");
        try {
            Files.writeString(source, "public final class " + EXAMPLE + " {\npublic static java.util.List<?> run() {\n"
                + "java.util.List<Object> answers = new java.util.ArrayList<>();\n" + String.join("\n", program)
                + "\nreturn answers;\n}\n}\n");
            String[] arguments = {"-cp", System.getProperty("java.class.path"), "-d", out.toString(), source.toString()};
            if (ToolProvider.getSystemJavaCompiler().run(null, null, null, arguments) != 0) {
                Check.fail("README.md: its Java does not compile");
                return List.of();
            }
            try (URLClassLoader loader = new URLClassLoader(new URL[] {out.toUri().toURL()}, ReadmeTests.class.getClassLoader())) {
                return (List<?>) loader.loadClass(EXAMPLE).getMethod("run").invoke(null);
            }
        } finally {
            for (File file : out.toFile().listFiles()) {
                file.delete();
            }
            out.toFile().delete();
        }
    }

    /** The numbers of its tables are those of the document. */
    static void allNumbersAreTold() throws IOException {
        String page = Files.readString(PAGE);
        for (String row : CONSTANTS) {
            if (!page.contains("| " + row + " |")) {
                Check.fail("README.md has no row '" + row + "'");
            }
        }
    }

    /** Each call of the class stands in README.md. */
    static void allCallsAreNamed() throws IOException {
        String page = Files.readString(PAGE);
        for (Method m : PoleNave.class.getDeclaredMethods()) {
            if (Modifier.isPublic(m.getModifiers()) && !page.contains("`" + m.getName() + "`")) {
                Check.fail("README.md doesn't name " + m.getName());
            }
        }
    }

    private ReadmeTests() {
    }
}
