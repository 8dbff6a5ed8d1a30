import java.io.IOException;
import java.lang.reflect.Method;
import java.net.URL;
import java.net.URLClassLoader;
import java.nio.file.Files;
import java.nio.file.Path;
import java.util.ArrayList;
import java.util.List;
import java.util.regex.Matcher;
import java.util.regex.Pattern;
import javax.tools.JavaCompiler;
import javax.tools.ToolProvider;

/**
 * What README.md shows of the class's use: its java blocks are taken from the page as they stand there, compiled
 * and run one behind the other, and each answer is held against the number at the head of the comment beside it.
 */
public final class ReadmeTest {
    private static final Pattern CALL = Pattern.compile("(?:int (\\w+) = )?(\\w.*\\));\\s*// (-?\\d+): .+");
    private static final String MADE_ANEW = "LowerHalf house = new LowerHalf();";

    private final StringBuilder calls = new StringBuilder();
    private final StringBuilder helpers = new StringBuilder();
    private final List<String> told = new ArrayList<>();
    private final List<Long> due = new ArrayList<>();

    /** Cuts the page into its java blocks; a block that has a function is kept as it is. */
    private void read(List<String> page) {
        int from = -1;
        for (int i = 0; i < page.size(); i++) {
            if (page.get(i).equals("```java")) {
                from = i + 1;
            } else if (page.get(i).equals("```") && from >= 0) {
                List<String> block = page.subList(from, i);
                if (block.stream().anyMatch(line -> line.startsWith("static "))) {
                    block.forEach(line -> helpers.append(line).append('\n'));
                } else {
                    readCalls(block, from);
                }
                from = -1;
            }
        }
    }

    private void readCalls(List<String> block, int from) {
        for (int k = 0; k < block.size(); k++) {
            String line = block.get(k);
            Matcher m = CALL.matcher(line);
            if (line.isEmpty() || line.equals(MADE_ANEW)) {
                calls.append(line).append('\n');
            } else if (m.matches()) {
                String variable = m.group(1);
                calls.append(variable == null ? "" : "int " + variable + " = " + m.group(2) + "; ");
                calls.append("got[").append(due.size()).append("] = ").append(variable == null ? m.group(2) : variable).append(";\n");
                told.add("README.md, line " + (from + k + 1) + ": " + m.group(2));
                due.add(Long.parseLong(m.group(3)));
            } else {
                throw new IllegalArgumentException("README.md, line " + (from + k + 1) + ": no call with its answer: " + line);
            }
        }
    }

    private String program() {
        return "public final class ReadmeUse {\npublic static long[] answers() {\nlong[] got = new long[" + due.size() + "];\n"
            + calls + "return got;\n}\n" + helpers + "}\n";
    }

    private long[] answers(Path folder) throws IOException, ReflectiveOperationException {
        Path source = folder.resolve("ReadmeUse.java");
        Files.writeString(source, program());
        JavaCompiler compiler = ToolProvider.getSystemJavaCompiler();
        int failed = compiler.run(null, null, null, "-d", folder.toString(), "-cp", System.getProperty("java.class.path"), source.toString());
        if (failed != 0) {
            throw new IllegalStateException("what README.md shows does not compile");
        }
        try (URLClassLoader loader = new URLClassLoader(new URL[] {folder.toUri().toURL()})) {
            return (long[]) loader.loadClass("ReadmeUse").getMethod("answers").invoke(null);
        }
    }

    private void compare() throws IOException, ReflectiveOperationException {
        Path folder = Files.createTempDirectory("readme");
        try {
            long[] got = answers(folder);
            for (int k = 0; k < got.length; k++) {
                Due.is(told.get(k), got[k], due.get(k));
            }
        } finally {
            for (String name : new String[] {"ReadmeUse.java", "ReadmeUse.class", ""}) {
                Files.deleteIfExists(folder.resolve(name));
            }
        }
    }

    /** Each call of the face is named on the page, and the one command that runs the tests. */
    private static void namesAll(String page) {
        for (Method m : LowerHalf.class.getDeclaredMethods()) {
            if (java.lang.reflect.Modifier.isPublic(m.getModifiers())) {
                Due.is("README.md names " + m.getName(), page.contains("`" + m.getName() + "`") ? 1 : 0, 1);
            }
        }
        Due.is("README.md tells how the tests are run", page.contains("\nbash .ci/run\n") ? 1 : 0, 1);
    }

    public static void main(String[] args) throws IOException, ReflectiveOperationException {
        Path page = Path.of(args.length > 0 ? args[0] : "README.md");
        ReadmeTest test = new ReadmeTest();
        test.read(Files.readAllLines(page));
        // a page that shows nothing, or a pattern that finds nothing, would hold whatever the class does
        Due.is("README.md shows calls", test.due.size() >= 60 ? 1 : 0, 1);
        test.compare();
        namesAll(Files.readString(page));
        Due.end("ReadmeTest");
    }
}
