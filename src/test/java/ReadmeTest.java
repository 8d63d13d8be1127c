import java.io.IOException;
import java.lang.reflect.Method;
import java.lang.reflect.Modifier;
import java.net.URL;
import java.net.URLClassLoader;
import java.nio.file.DirectoryStream;
import java.nio.file.Files;
import java.nio.file.Path;
import java.util.Set;
import java.util.TreeSet;
import java.util.regex.Matcher;
import java.util.regex.Pattern;
import javax.tools.ToolProvider;

/** What README.md says of the class's use and of its tests holds as it is written there. */
public final class ReadmeTest {
    private static final Pattern BLOCK = Pattern.compile("(?s)```java\n(.*?)```");
    private static final Pattern LINE = Pattern.compile("(?:(?:int|long) (\\w+) = )?(x\\.\\w+\\(.*\\));\\s+// (-?\\d+): .*");
    private static final String FIRST_LINE = "InnerCaptures x = new InnerCaptures();";
    private static final Pattern COMPILING = Pattern.compile("(?m)^    javac (.*)\n    java -cp out YourProgram$");
    private static final Path TESTS = Path.of("src/test/java");
    private static final Due due = new Due();

    public static void main(String[] args) throws Exception {
        String readme = Files.readString(Path.of("README.md"));
        example(readme);
        callsAreNamed(readme);
        numbersAreTold(readme);
        testsAreNamed(readme);
        filesAreThere(readme);
        due.end();
    }

    private static void example(String readme) throws Exception {
        Matcher block = BLOCK.matcher(readme);
        due.isTrue("README.md has an example", block.find());
        String[] lines = block.group(1).split("\n");
        Matcher compiling = COMPILING.matcher(readme);
        due.isTrue("README.md tells how to compile and run", compiling.find());
        long[][] answers = answersOf(lines, compiling.group(1).split(" "));
        for (int i = 0; i < lines.length; i++) {
            Matcher line = LINE.matcher(lines[i]);
            due.isTrue("the line tells what it answers: " + lines[i], line.matches() || i == 0 && lines[i].equals(FIRST_LINE));
            if (line.matches()) {
                due.is("README.md: " + line.group(2), answers[i][0], Long.parseLong(line.group(3)));
            }
        }
        due.isTrue("no other example is left out", !block.find());
    }

    /** Compiles the lines as README.md tells, each with a note of its answer behind it, and runs them. */
    private static long[][] answersOf(String[] lines, String[] command) throws Exception {
        Path room = Files.createTempDirectory("readme");
        Path source = room.resolve("YourProgram.java");
        Files.writeString(source, sourceOf(lines));
        for (int i = 0; i < command.length; i++) {
            command[i] = command[i].equals("out") ? room.toString() : command[i].equals("YourProgram.java") ? source.toString() : command[i];
        }
        int failed = ToolProvider.getSystemJavaCompiler().run(null, null, null, command);
        due.is("the example compiles", failed, 0);
        long[][] answers = new long[lines.length][1];
        if (failed == 0) {
            // Without this test's own classes, so that nothing is there but what the command made.
            try (URLClassLoader loader = new URLClassLoader(new URL[] {room.toUri().toURL()}, ClassLoader.getPlatformClassLoader())) {
                loader.loadClass("YourProgram").getMethod("run", long[][].class).invoke(null, (Object) answers);
            }
        }
        remove(room);
        return answers;
    }

    private static String sourceOf(String[] lines) {
        StringBuilder code = new StringBuilder("public final class YourProgram {\npublic static void run(long[][] answers) {\n");
        for (int i = 0; i < lines.length; i++) {
            Matcher line = LINE.matcher(lines[i]);
            String note = "answers[" + i + "][0] = ";
            if (!line.matches()) {
                code.append(lines[i]).append('\n');
            } else if (line.group(1) == null) {
                code.append(note).append(lines[i]).append('\n');
            } else {
                code.append(lines[i]).append('\n').append(note).append(line.group(1)).append(";\n");
            }
        }
        return code.append("}\n}\n").toString();
    }

    private static void remove(Path room) throws IOException {
        try (DirectoryStream<Path> files = Files.newDirectoryStream(room)) {
            for (Path file : files) {
                Files.delete(file);
            }
        }
        Files.delete(room);
    }

    private static void callsAreNamed(String readme) {
        Set<String> told = new TreeSet<>();
        for (Matcher call = Pattern.compile("(?m)^\\|.*").matcher(readme); call.find();) {
            for (Matcher name = Pattern.compile("`(\\w+)\\(([^)]*)\\)`").matcher(call.group()); name.find();) {
                told.add(name.group(1) + " " + (name.group(2).isEmpty() ? 0 : name.group(2).split(", ").length));
            }
        }
        Set<String> open = new TreeSet<>();
        for (Method method : InnerCaptures.class.getDeclaredMethods()) {
            if (Modifier.isPublic(method.getModifiers())) {
                open.add(method.getName() + " " + method.getParameterCount());
            }
        }
        due.isTrue("the calls that README.md tells are the public ones: " + told, told.equals(open));
    }

    private static void numbersAreTold(String readme) {
        due.isTrue("BAD", readme.contains("`BAD` (" + InnerCaptures.BAD + ")"));
        due.isTrue("FULL", readme.contains("`FULL` (" + InnerCaptures.FULL + ")"));
        due.isTrue("NONE", readme.contains("`NONE` (" + InnerCaptures.NONE + ")"));
        due.isTrue("TAKEN", readme.contains("`TAKEN` (" + InnerCaptures.TAKEN + ")"));
    }

    private static void testsAreNamed(String readme) throws IOException {
        Set<String> there = new TreeSet<>();
        try (DirectoryStream<Path> files = Files.newDirectoryStream(TESTS, "*.java")) {
            for (Path file : files) {
                there.add(file.getFileName().toString().replace(".java", ""));
            }
        }
        Set<String> named = new TreeSet<>();
        for (Matcher name = Pattern.compile("`([A-Z][a-z]\\w*)`").matcher(readme); name.find();) {
            named.add(name.group(1));
        }
        due.isTrue("the tests that README.md names are those of " + TESTS + ": " + named, named.equals(there));
    }

    private static void filesAreThere(String readme) {
        for (Matcher path = Pattern.compile("`([\\w./]+/[\\w.]+)`").matcher(readme); path.find();) {
            due.isTrue("there is a file " + path.group(1), Files.isRegularFile(Path.of(path.group(1))));
        }
        due.isTrue("README.md tells how to run the tests", readme.contains("\n    .ci/run\n"));
        due.isTrue(".ci/run can be run", Files.isExecutable(Path.of(".ci/run")));
    }
}
