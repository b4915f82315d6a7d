import java.io.IOException;
import java.lang.reflect.Method;
import java.lang.reflect.Modifier;
import java.nio.file.Files;
import java.nio.file.Path;
import java.util.ArrayList;
import java.util.Comparator;
import java.util.List;
import java.util.Set;
import java.util.TreeSet;
import java.util.regex.Matcher;
import java.util.regex.Pattern;
import java.util.stream.Stream;

/** What README.md tells a reader to do is so when it is done as told there, in a copy of the project. */
public final class ReadmeTest {
    private static final Path ROOT = Path.of("").toAbsolutePath();

    /** What stands between two fences, with the word behind the first one. */
    private record Block(String kind, String text) {
    }

    public static void main(String[] args) throws IOException, InterruptedException {
        Path readme = ROOT.resolve("README.md");
        if (!Files.exists(readme)) {
            System.out.println("ReadmeTest is run in the project's root: there is no README.md in " + ROOT);
            System.exit(1);
        }
        String text = Files.readString(readme);
        List<Block> blocks = blocks(text);
        program(blocks);
        tables(text);
        commands(blocks);
        Check.end("ReadmeTest");
    }

    private static List<Block> blocks(String text) {
        List<Block> found = new ArrayList<>();
        Matcher m = Pattern.compile("(?ms)^```(\\w+)\n(.*?)^```$").matcher(text);
        while (m.find()) {
            found.add(new Block(m.group(1), m.group(2)));
        }
        return found;
    }

    private static void program(List<Block> blocks) throws IOException {
        List<String> shown = new ArrayList<>();
        for (Block block : blocks) {
            if (block.kind.equals("java")) {
                shown.add(block.text);
            }
        }
        Check.due("programs shown", shown.size(), 1);
        Check.due("the program shown", String.join("", shown),
                Files.readString(ROOT.resolve("src/test/java/Example.java")));
    }

    /** The first cells of all rows that the pattern fits, which has one group. */
    private static Set<String> rows(String text, String pattern) {
        Set<String> found = new TreeSet<>();
        Matcher m = Pattern.compile("(?m)^\\| " + pattern + " \\|").matcher(text);
        while (m.find()) {
            found.add(m.group(1));
        }
        return found;
    }

    private static void tables(String text) throws IOException {
        Set<String> tests = new TreeSet<>();
        try (Stream<Path> files = Files.list(ROOT.resolve("src/test/java"))) {
            files.map(file -> file.getFileName().toString()).filter(name -> name.endsWith("Test.java"))
                    .forEach(name -> tests.add(name.substring(0, name.length() - 5)));
        }
        Check.due("the tests", rows(text, "(\\w+Test)").toString(), tests.toString());
        Set<String> calls = new TreeSet<>();
        for (Method m : PlayedWritten.class.getDeclaredMethods()) {
            if (Modifier.isPublic(m.getModifiers())) {
                calls.add(m.getName() + " " + m.getParameterCount());
            }
        }
        Set<String> told = new TreeSet<>();
        for (String call : rows(text, "`(\\w+\\([\\w, ]*\\))`")) {
            int many = call.endsWith("()") ? 0 : call.split(",").length;
            told.add(call.substring(0, call.indexOf('(')) + " " + many);
        }
        Check.due("the calls", told.toString(), calls.toString());
    }

    private static void commands(List<Block> blocks) throws IOException, InterruptedException {
        Path room = Files.createTempDirectory("readme");
        try {
            Path copy = copyProject(room);
            int done = 0;
            for (int n = 0; n < blocks.size(); n++) {
                if (!blocks.get(n).kind.equals("sh")) {
                    continue;
                }
                done++;
                if (blocks.get(n).text.equals(".ci/run\n")) {
                    // What runs this test can not be run by it.
                    Check.holds(".ci/run can be run", Files.isExecutable(ROOT.resolve(".ci/run")));
                    continue;
                }
                String printed = outcome(copy, blocks.get(n).text);
                if (n + 1 < blocks.size() && blocks.get(n + 1).kind.equals("text")) {
                    Check.due("what is printed", printed, blocks.get(n + 1).text);
                }
            }
            Check.due("commands told", done, 4);
        } finally {
            delete(room);
        }
    }

    private static Path copyProject(Path room) throws IOException {
        Path copy = room.resolve("project");
        try (Stream<Path> files = Files.walk(ROOT.resolve("src"))) {
            for (Path file : (Iterable<Path>) files::iterator) {
                Path to = copy.resolve(ROOT.relativize(file));
                Files.createDirectories(to.getParent());
                Files.copy(file, to);
            }
        }
        Files.createSymbolicLink(room.resolve("shared"), ROOT.resolve("../shared").normalize());
        return copy;
    }

    private static String outcome(Path where, String commands) throws IOException, InterruptedException {
        ProcessBuilder shell = new ProcessBuilder("bash", "-e", "-c", commands);
        Process process = shell.directory(where.toFile()).redirectErrorStream(true).start();
        String printed = new String(process.getInputStream().readAllBytes());
        int code = process.waitFor();
        Check.due("exit code of\n" + commands, code, 0);
        if (code != 0) {
            System.out.println(printed);
        }
        return printed;
    }

    private static void delete(Path room) throws IOException {
        try (Stream<Path> files = Files.walk(room)) {
            for (Path file : (Iterable<Path>) files.sorted(Comparator.reverseOrder())::iterator) {
                Files.delete(file);
            }
        }
    }
}
