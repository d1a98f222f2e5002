import java.io.IOException;
import java.lang.reflect.Modifier;
import java.nio.file.Files;
import java.nio.file.Path;
import java.util.ArrayList;
import java.util.List;
import java.util.regex.Matcher;
import java.util.regex.Pattern;
import java.util.stream.Stream;

/** README.md: its example is the file and prints what stands there, its commands work as they stand, each call is named. */
public final class ReadmeTest {
    private static final Path SHARED = Path.of("../shared/tests");
    /** This is what runs this test. */
    private static final String ALL = ".ci/run\n";
    private static final Due DUE = new Due();

    private static String page;

    public static void main(String[] args) throws Exception {
        page = Files.readString(Path.of("README.md"));
        example();
        commands();
        calls();
        DUE.end();
    }

    private static List<String> blocks(String kind) {
        List<String> blocks = new ArrayList<>();
        Matcher m = Pattern.compile("(?ms)^```" + kind + "\n(.*?)^```$").matcher(page);
        while (m.find()) {
            blocks.add(m.group(1));
        }
        return blocks;
    }

    private static void example() throws IOException {
        DUE.part("example");
        List<String> shown = blocks("java");
        DUE.is("examples", shown.size(), 1);
        DUE.holds("it is the file", shown.get(0).equals(Files.readString(Path.of("src/test/java/Example.java"))));
    }

    private static void commands() throws Exception {
        DUE.part("commands");
        List<String> blocks = blocks("sh");
        DUE.holds("how all tests are run", blocks.contains(ALL) && Files.isExecutable(Path.of(".ci/run")));
        DUE.is("what is printed", blocks("text").size(), 1);
        String printed = blocks("text").get(0);
        boolean seen = false;
        for (String block : blocks) {
            if (!block.equals(ALL)) {
                seen |= run(block).equals(printed);
            }
        }
        DUE.holds("a command prints what the page shows", seen);
    }

    /** What a checkout holds, in a place of its own for each block, so that none leans on what another made. */
    private static String run(String block) throws Exception {
        Path top = Files.createTempDirectory("readme");
        try {
            Path here = top.resolve("main");
            copy(Path.of("src"), here.resolve("src"));
            copy(SHARED, top.resolve("shared/tests"));
            Path told = top.resolve("told");
            Process shell = new ProcessBuilder("sh", "-ec", block).directory(here.toFile())
                .redirectErrorStream(true).redirectOutput(told.toFile()).start();
            shell.getOutputStream().close();
            int code = shell.waitFor();
            String text = Files.readString(told);
            DUE.is(block + text + "exit code", code, 0);
            return text;
        } finally {
            remove(top);
        }
    }

    private static List<Path> all(Path top) throws IOException {
        try (Stream<Path> found = Files.walk(top)) {
            return found.sorted().toList();
        }
    }

    private static void copy(Path from, Path to) throws IOException {
        for (Path p : all(from)) {
            Path copied = to.resolve(from.relativize(p));
            if (Files.isDirectory(p)) {
                Files.createDirectories(copied);
            } else {
                Files.write(copied, Files.readAllBytes(p));
            }
        }
    }

    private static void remove(Path top) throws IOException {
        List<Path> all = all(top);
        for (int i = all.size() - 1; i >= 0; i--) {
            Files.delete(all.get(i));
        }
    }

    private static void calls() {
        DUE.part("calls");
        for (java.lang.reflect.Method m : HotHall.class.getDeclaredMethods()) {
            if (Modifier.isPublic(m.getModifiers())) {
                DUE.holds(m.getName() + " is named", page.contains("`" + m.getName() + "`"));
            }
        }
    }
}
