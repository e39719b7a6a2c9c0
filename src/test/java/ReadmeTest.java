import java.lang.reflect.Method;
import java.lang.reflect.Modifier;
import java.net.URL;
import java.net.URLClassLoader;
import java.nio.charset.StandardCharsets;
import java.nio.file.Files;
import java.nio.file.Path;
import java.util.ArrayList;
import java.util.Comparator;
import java.util.List;
import java.util.regex.Matcher;
import java.util.regex.Pattern;
import java.util.stream.Stream;

/** What README.md says of an answer is so: its examples are compiled and run, it names each call and test. */
public final class ReadmeTest {
    private static final Check CHECK = new Check();
    private static final Pattern BLOCK = Pattern.compile("(?ms)^```java\n(.*?)^```$");
    private static final Pattern ANSWERED = Pattern.compile("(?:int (\\w+) = )?(.*); +// ([-\\w]+)\\b.*");
    private static final int LEAST_ANSWERS = 50;

    private final List<String> calls = new ArrayList<>();
    private final StringBuilder methods = new StringBuilder();
    private final StringBuilder stories = new StringBuilder();

    public static void main(String[] args) throws Exception {
        String readme = Files.readString(Path.of("README.md"), StandardCharsets.UTF_8);
        ReadmeTest test = new ReadmeTest();
        test.read(readme);
        test.run();
        namesEachTest(readme);
        namesEachCall(readme);
        CHECK.end();
    }

    private void read(String readme) {
        Matcher block = BLOCK.matcher(readme);
        while (block.find()) {
            String code = block.group(1);
            if (code.startsWith("static")) {
                methods.append(code);
            } else {
                stories.append("{\n");
                code.lines().forEach(this::addLine);
                stories.append("}\n");
            }
        }
        CHECK.due("answers in README.md", calls.size() >= LEAST_ANSWERS ? 1 : 0, 1);
    }

    /** A call with an answer behind it puts both into rows; any other line stays as it is. */
    private void addLine(String line) {
        Matcher m = ANSWERED.matcher(line);
        if (!m.matches()) {
            stories.append(line).append('\n');
            return;
        }
        String name = m.group(1) == null ? "answer" + calls.size() : m.group(1);
        String wanted = Character.isUpperCase(m.group(3).charAt(0)) ? "PaperTown." + m.group(3) : m.group(3);
        stories.append("int ").append(name).append(" = ").append(m.group(2)).append(";\n");
        stories.append("got[").append(calls.size()).append("] = ").append(name).append(";\n");
        stories.append("wanted[").append(calls.size()).append("] = ").append(wanted).append(";\n");
        calls.add(line.trim());
    }

    private void run() throws Exception {
        String code = "public final class Readme {\n" + methods + "public static void tell(int[] got, int[] wanted) {\n"
            + stories + "}\n}\n";
        Path dir = Files.createTempDirectory("readme");
        try {
            Files.writeString(dir.resolve("Readme.java"), code, StandardCharsets.UTF_8);
            int failed = new ProcessBuilder("javac", "-cp", System.getProperty("java.class.path"), "-d", dir.toString(),
                dir.resolve("Readme.java").toString()).inheritIO().start().waitFor();
            CHECK.due("README.md's examples compile", failed, 0);
            if (failed == 0) {
                hold(dir);
            }
        } finally {
            clear(dir);
        }
    }

    private void hold(Path dir) throws Exception {
        int[] got = new int[calls.size()];
        int[] wanted = new int[calls.size()];
        try (URLClassLoader loader = new URLClassLoader(new URL[] {dir.toUri().toURL()})) {
            loader.loadClass("Readme").getMethod("tell", int[].class, int[].class).invoke(null, got, wanted);
        }
        for (int i = 0; i < got.length; i++) {
            CHECK.due("README.md: " + calls.get(i), got[i], wanted[i]);
        }
    }

    private static void clear(Path dir) throws Exception {
        try (Stream<Path> files = Files.walk(dir)) {
            for (Path file : files.sorted(Comparator.reverseOrder()).toList()) {
                Files.delete(file);
            }
        }
    }

    private static void namesEachTest(String readme) throws Exception {
        try (Stream<Path> files = Files.list(Path.of("src/test/java"))) {
            for (Path file : files.toList()) {
                String name = file.getFileName().toString().replace(".java", "");
                CHECK.due("README.md names " + name, readme.contains("`" + name + "`") ? 1 : 0, 1);
            }
        }
    }

    private static void namesEachCall(String readme) {
        for (Method call : PaperTown.class.getDeclaredMethods()) {
            if (Modifier.isPublic(call.getModifiers())) {
                boolean named = readme.contains("| `" + call.getName() + "(");
                CHECK.due("README.md tells " + call.getName(), named ? 1 : 0, 1);
            }
        }
    }
}
