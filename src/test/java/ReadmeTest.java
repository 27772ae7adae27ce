import java.io.IOException;
import java.net.URL;
import java.net.URLClassLoader;
import java.nio.file.DirectoryStream;
import java.nio.file.Files;
import java.nio.file.Path;
import java.util.function.BiConsumer;
import java.util.function.Consumer;
import java.util.regex.Matcher;
import java.util.regex.Pattern;
import javax.tools.ToolProvider;

/** What README.md shows compiles, and answers what stands behind it: run in the project's directory. */
public final class ReadmeTest {
    private static final Pattern BLOCK = Pattern.compile("```(java|text)\\n(.*?)```", Pattern.DOTALL);
    private static final Pattern ANSWER = Pattern.compile("^ *((?:loom\\.(?!poke)\\w+|build)\\(.*\\)); +// (-?\\d+)\\b.*$");

    public static void main(String[] args) throws Exception {
        Check check = new Check();
        Path room = Files.createTempDirectory("readme");
        Path source = room.resolve("ReadmeExample.java");
        Files.writeString(source, program(Files.readString(Path.of("README.md")), check));
        int failed = ToolProvider.getSystemJavaCompiler().run(null, null, null, "-cp", System.getProperty("java.class.path"),
                "-d", room.toString(), source.toString());
        check.due("README.md's examples compile", failed, 0);
        if (failed == 0) {
            run(room, check);
        }
        delete(room);
        check.finish();
    }

    /** The blocks in their order: methods stand beside main, all other lines in it. */
    private static String program(String readme, Check check) {
        StringBuilder methods = new StringBuilder();
        StringBuilder lines = new StringBuilder();
        Matcher blocks = BLOCK.matcher(readme);
        int found = 0;
        while (blocks.find()) {
            String block = blocks.group(2);
            if (blocks.group(1).equals("text")) {
                lines.append("String text = \"").append(block.replace("\"", "\\\"").replace("\n", "\\n")).append("\";\n");
            } else if (block.startsWith("static ")) {
                methods.append(block);
            } else {
                found += statements(block, lines);
            }
        }
        check.due("README.md shows answers", found > 0 ? 1 : 0, 1);
        return "import java.util.function.*;\n"
                + "public final class ReadmeExample implements Consumer<BiConsumer<Long, Long>> {\n" + methods
                + "public void accept(BiConsumer<Long, Long> due) {\n" + lines + "}\n}\n";
    }

    private static int statements(String block, StringBuilder lines) {
        int found = 0;
        for (String line : block.split("\n")) {
            Matcher answer = ANSWER.matcher(line);
            if (answer.matches()) {
                lines.append("due.accept((long) ").append(answer.group(1)).append(", ").append(answer.group(2)).append("L);\n");
                found++;
            } else {
                lines.append(line).append('\n');
            }
        }
        return found;
    }

    @SuppressWarnings("unchecked")
    private static void run(Path room, Check check) throws Exception {
        try (URLClassLoader loader = new URLClassLoader(new URL[] {room.toUri().toURL()})) {
            Object example = loader.loadClass("ReadmeExample").getConstructor().newInstance();
            ((Consumer<BiConsumer<Long, Long>>) example)
                    .accept((is, due) -> check.due("an answer that README.md shows", is, due));
        }
    }

    private static void delete(Path room) throws IOException {
        try (DirectoryStream<Path> files = Files.newDirectoryStream(room)) {
            for (Path file : files) {
                Files.delete(file);
            }
        }
        Files.delete(room);
    }
}
