import java.io.ByteArrayOutputStream;
import java.io.IOException;
import java.lang.reflect.Method;
import java.net.URL;
import java.net.URLClassLoader;
import java.nio.file.Files;
import java.nio.file.Path;
import java.util.ArrayList;
import java.util.List;
import java.util.regex.Matcher;
import java.util.regex.Pattern;
import javax.tools.ToolProvider;

/** README.md's Java lines compile, and each call answers the number that stands behind it. Run where README.md is. */
public final class ReadmeTest {
    private static final String BEGIN = "```java\n";
    private static final String END = "```\n";
    private static final Pattern CALL = Pattern.compile("^(x\\.\\w+\\(.*\\));\\s*// (-?[0-9]+)\\b.*$");

    private static final List<String> calls = new ArrayList<>();
    private static final List<Long> wanted = new ArrayList<>();

    public static void main(String[] args) throws Exception {
        String readme = Files.readString(Path.of("README.md"));
        int begin = readme.indexOf(BEGIN);
        int end = begin < 0 ? -1 : readme.indexOf(END, begin + BEGIN.length());
        Due.same("README.md has Java lines", end > begin ? 1 : 0, 1);
        if (end > begin) {
            run(asClass(readme.substring(begin + BEGIN.length(), end)));
        }
        Due.end("ReadmeTest");
    }

    private static String asClass(String lines) {
        StringBuilder source = new StringBuilder();
        source.append("public final class ReadmeLines {\n    public static void ask(java.util.List<Long> got) {\n");
        for (String line : lines.split("\n")) {
            Matcher call = CALL.matcher(line);
            if (call.matches()) {
                calls.add(call.group(1));
                wanted.add(Long.parseLong(call.group(2)));
                source.append("got.add((long) ").append(call.group(1)).append(");\n");
            } else {
                Due.same("lines without an answer behind: " + line, line.startsWith("x.") ? 1 : 0, 0);
                source.append(line).append('\n');
            }
        }
        return source.append("    }\n}\n").toString();
    }

    private static void run(String source) throws Exception {
        Path directory = Files.createTempDirectory("readme");
        try {
            Path file = directory.resolve("ReadmeLines.java");
            Files.writeString(file, source);
            ByteArrayOutputStream told = new ByteArrayOutputStream();
            int refused = ToolProvider.getSystemJavaCompiler().run(null, told, told, "-cp",
                System.getProperty("java.class.path"), "-d", directory.toString(), file.toString());
            Due.sameText("javac of README.md's lines", refused == 0 ? "" : told.toString(), "");
            if (refused == 0) {
                compare(answersOf(directory));
            }
        } finally {
            delete(directory);
        }
    }

    private static List<Long> answersOf(Path directory) throws Exception {
        URL[] place = {directory.toUri().toURL()};
        try (URLClassLoader loader = new URLClassLoader(place, ReadmeTest.class.getClassLoader())) {
            Method ask = loader.loadClass("ReadmeLines").getMethod("ask", List.class);
            List<Long> got = new ArrayList<>();
            ask.invoke(null, got);
            return got;
        }
    }

    private static void compare(List<Long> got) {
        Due.same("how many calls", got.size(), calls.size());
        for (int i = 0; i < got.size() && i < calls.size(); i++) {
            Due.same(calls.get(i), got.get(i), wanted.get(i));
        }
    }

    private static void delete(Path directory) throws IOException {
        List<Path> files;
        try (var found = Files.list(directory)) {
            files = found.toList();
        }
        for (Path file : files) {
            Files.delete(file);
        }
        Files.delete(directory);
    }
}
