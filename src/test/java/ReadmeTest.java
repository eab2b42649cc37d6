import java.io.IOException;
import java.lang.reflect.Method;
import java.lang.reflect.Modifier;
import java.nio.charset.StandardCharsets;
import java.nio.file.Files;
import java.nio.file.Path;
import java.util.ArrayList;
import java.util.Arrays;
import java.util.Comparator;
import java.util.List;
import java.util.Set;
import java.util.TreeSet;
import java.util.regex.MatchResult;
import java.util.regex.Pattern;
import java.util.stream.Collectors;
import java.util.stream.Stream;

/** README.md, taken as it stands: its example, its text, its commands, its calls. Run from the project's folder. */
public final class ReadmeTest {
    private static final Path DOCUMENT = Path.of("../shared/DOC.md");
    private static String page = "";

    private ReadmeTest() {
    }

    public static void main(String[] args) throws Exception {
        page = Files.readString(Path.of("README.md"));
        Path folder = Files.createTempDirectory("readme");
        try {
            Files.createSymbolicLink(folder.resolve("src"), Path.of("src").toAbsolutePath());
            example(folder);
            commands(folder);
        } finally {
            remove(folder);
        }
        text();
        calls();
        Rings.finish("ReadmeTest");
    }

    /** The example does what its words say: it prints, line by line, what stands behind each //. */
    private static void example(Path folder) throws Exception {
        List<String> programs = blocks("java");
        Rings.due("one example", 1, programs.size());
        Files.writeString(folder.resolve("Example.java"), programs.get(0));
        List<String> due = found("println\\(.*?\\);\\s*// (\\S+): \\S", programs.get(0));
        Rings.due("a word for each line printed", found("(println)\\(", programs.get(0)).size(), due.size());
        List<String> commands = blocks("sh").stream().filter(block -> block.contains("Example")).toList();
        Rings.due("how it is run", 1, commands.size());
        List<String> printed = run(folder, commands.get(0));
        Rings.due("lines printed", due.size(), printed.size());
        for (int i = 0; i < Math.min(due.size(), printed.size()); i++) {
            Rings.due("line " + i + " of the example, " + due.get(i) + " or " + printed.get(i), true,
                due.get(i).equals(printed.get(i)));
        }
    }

    /** Each command on the page ends well; the one that runs all tests runs this one. */
    private static void commands(Path folder) throws Exception {
        for (String block : blocks("sh")) {
            if (block.contains("Example")) {
                continue;
            }
            if (block.strip().equals(".ci/run")) {
                Rings.due("can be run", true, Files.isExecutable(Path.of(".ci/run")));
            } else {
                run(folder, block);
            }
        }
        Rings.due("how tests are run", true, blocks("sh").stream().anyMatch(block -> block.strip().equals(".ci/run")));
    }

    private static void text() {
        List<String> texts = blocks("text");
        Rings.due("one text", 1, texts.size());
        WindowRing ring = Rings.good(2, texts.get(0));
        int[] due = {4, 2, 2};
        for (int what = 0; what < due.length; what++) {
            Rings.due("about(" + what + ")", due[what], ring.about(what));
        }
        Rings.due("slice", 6, ring.about(9));
        Rings.due("handler", 2, ring.about(10));
        ring.run(500);
        ring.run(500);
        Rings.due("all over", -1, ring.about(7));
        Rings.due("fib of 10", 55, ring.result(0));
        Rings.due("mix of 7 and 9", -170, ring.result(1));
        Rings.due("price", 12 * ring.about(4) + 2 * ring.about(5), ring.about(6));
    }

    /** Each call of the face stands in the table, by the promises that the document tells it by. */
    private static void calls() throws IOException {
        Set<String> face = new TreeSet<>();
        for (Method method : WindowRing.class.getDeclaredMethods()) {
            if (Modifier.isPublic(method.getModifiers())) {
                face.add(method.getName());
            }
        }
        Set<String> told = new TreeSet<>();
        for (MatchResult row : Pattern.compile("(?m)^\\| (`.*?) \\|.*\\| ([^|]*) \\|$").matcher(page).results().toList()) {
            List<String> names = found("`(\\w+)\\(\\)`", row.group(1));
            told.addAll(names);
            if (Files.isReadable(DOCUMENT)) {
                Rings.due("promises " + row.group(2), true, new TreeSet<>(names).equals(promised(row.group(2))));
            }
        }
        Rings.due("calls told: " + told, true, told.equals(face));
    }

    /** The calls that some promises, told as numbers or as a first and a last one, are about. */
    private static Set<String> promised(String numbers) throws IOException {
        List<Integer> told = found("(\\d+)", numbers).stream().map(Integer::valueOf).toList();
        int first = told.get(0);
        int last = told.get(told.size() - 1);
        String document = Files.readString(DOCUMENT);
        Set<String> names = new TreeSet<>();
        for (int i = first; i <= last; i++) {
            if (numbers.contains("to") || told.contains(i)) {
                names.addAll(found("(?m)^## Promise " + i + ": (\\w+)$", document));
            }
        }
        return names;
    }

    private static List<String> blocks(String kind) {
        return found("(?ms)^```" + kind + "\n(.*?)^```$", page);
    }

    private static List<String> found(String pattern, String in) {
        return Pattern.compile(pattern).matcher(in).results().map(result -> result.group(1)).collect(Collectors.toList());
    }

    private static List<String> run(Path folder, String commands) throws IOException, InterruptedException {
        Process process = new ProcessBuilder("sh", "-ec", commands).directory(folder.toFile())
            .redirectError(ProcessBuilder.Redirect.INHERIT).start();
        String printed = new String(process.getInputStream().readAllBytes(), StandardCharsets.UTF_8);
        Rings.due("exit code of " + commands, 0, process.waitFor());
        return printed.isEmpty() ? new ArrayList<>() : Arrays.asList(printed.split("\n"));
    }

    private static void remove(Path folder) throws IOException {
        try (Stream<Path> paths = Files.walk(folder)) {
            for (Path path : paths.sorted(Comparator.reverseOrder()).toList()) {
                Files.delete(path);
            }
        }
    }
}
