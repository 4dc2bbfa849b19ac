import java.io.IOException;
import java.nio.charset.StandardCharsets;
import java.nio.file.Files;
import java.nio.file.Path;
import java.util.ArrayList;
import java.util.Comparator;
import java.util.List;
import java.util.regex.Matcher;
import java.util.regex.Pattern;
import java.util.stream.Collectors;
import java.util.stream.Stream;

/**
 * README.md says how to use the class and how to run its tests: all that it says of calls, refusals
 * and constants is as the document has it, and its example runs as it stands.
 */
public final class ReadmeTest {
    static final Path EXAMPLE = Path.of("src/example/java/Example.java");
    static final Path PROGRAM = Path.of("src/main/java/GuestStones.java");
    static final Path TESTS = Path.of("src/test/java");
    static final int PROMISED_CALLS = 30, CONSTANTS = 7;
    static int wrong = 0;

    public static void main(String[] args) throws IOException, InterruptedException {
        String readme = Files.readString(Path.of("README.md"));
        String document = Files.readString(Path.of("../shared/DOC.md"));
        calls(readme, document);
        constants(readme, document);
        refusalsInTheirOrder(readme, document);
        tests(readme);
        example(readme);
        System.out.println("ReadmeTest: " + wrong + " wrong");
        if (wrong != 0) {
            System.exit(1);
        }
    }

    static void isSo(boolean so, String what) {
        if (!so) {
            wrong++;
            System.out.println("ReadmeTest: " + what);
        }
    }

    static List<String> all(String words, String form) {
        List<String> found = new ArrayList<>();
        Matcher m = Pattern.compile(form).matcher(words);
        while (m.find()) {
            found.add(m.group());
        }
        return found;
    }

    static List<String> refusals(String words) {
        return all(words, "\\b(UNKNOWN|OUTSIDE|NO|STATE|FULL)\\b");
    }

    /** Promises 2 to 31: a row for each call, with its types and the refusals that the promise names. */
    static void calls(String readme, String document) {
        Matcher promise = Pattern.compile("(?m)^`(\\w+ \\w+\\([^)]*\\))`: (.*)$").matcher(document);
        int promises = 0;
        while (promise.find()) {
            promises++;
            String call = promise.group(1);
            Matcher row = Pattern.compile("(?m)^\\| `" + Pattern.quote(call) + "` \\| ([^|]+) \\| ?([^|]*) ?\\|$").matcher(readme);
            if (!row.find()) {
                isSo(false, "no row for " + call);
                continue;
            }
            List<String> wanted = refusals(promise.group(2));
            isSo(refusals(row.group(2)).equals(wanted), call + " is refused by " + wanted + ", told are " + refusals(row.group(2)));
            isSo(row.group(1).contains("NONE") == promise.group(2).contains("NONE"), call + " answers NONE or does not");
        }
        isSo(promises == PROMISED_CALLS, "the document has " + promises + " promises of calls");
        isSo(all(readme, "(?m)^\\| `\\w+ \\w+\\(").size() == PROMISED_CALLS, "a row is for no call of the document");
        isSo(readme.contains("`new GuestStones()`"), "how an object is made is not told");
        isSo(readme.contains("512\ncalls"), "for how many calls an object is used is not told");
    }

    /** The public face: each constant with its value. */
    static void constants(String readme, String document) {
        Matcher constant = Pattern.compile("\\b([A-Z]+) = (-\\d+)").matcher(document);
        int constants = 0;
        while (constant.find()) {
            constants++;
            String name = "`" + constant.group(1) + "`";
            String value = constant.group(2);
            isSo(readme.contains("| " + name + " | " + value + " |") || readme.contains(name + " (" + value + ")"),
                    name + " is not told to be " + value);
        }
        isSo(constants == CONSTANTS, "the document has " + constants + " constants");
    }

    /** Terms: which of several refusals is answered. */
    static void refusalsInTheirOrder(String readme, String document) {
        int start = document.indexOf("the first of these that fits");
        List<String> wanted = refusals(document.substring(start, document.indexOf("They change nothing.", start)));
        List<String> told = refusals(String.join(" ", all(readme, "(?m)^\\| `[A-Z]+` \\|")));
        isSo(told.equals(wanted), "refusals are told in the order " + told + ", not " + wanted);
        isSo(readme.contains("A refused call changes nothing"), "that refused calls change nothing is not told");
    }

    static void tests(String readme) throws IOException {
        isSo(Files.isExecutable(Path.of(".ci/run")) && readme.contains("    .ci/run\n"), "how to run the tests is not told");
        for (String name : testNames()) {
            isSo(readme.contains("\n- `" + name + "`: "), name + " is not told");
        }
        for (String name : all(readme, "(?m)^- `\\w+Test`")) {
            String file = name.replaceAll("[- `]", "") + ".java";
            isSo(Files.exists(TESTS.resolve(file)), file + " is told and is not there");
        }
    }

    static List<String> testNames() throws IOException {
        try (Stream<Path> files = Files.list(TESTS)) {
            return files.map(file -> file.getFileName().toString())
                    .filter(name -> name.endsWith("Test.java"))
                    .map(name -> name.substring(0, name.length() - ".java".length()))
                    .sorted().collect(Collectors.toList());
        }
    }

    /** The commands run where there is nothing but the program and the example. */
    static void example(String readme) throws IOException, InterruptedException {
        isSo(block(readme, "java").equals(Files.readString(EXAMPLE)), "the example is not " + EXAMPLE);
        Path place = Files.createTempDirectory("readme");
        try {
            for (Path file : List.of(EXAMPLE, PROGRAM)) {
                Files.createDirectories(place.resolve(file).getParent());
                Files.copy(file, place.resolve(file));
            }
            Process run = new ProcessBuilder("sh", "-c", "set -e\n" + block(readme, "sh"))
                    .directory(place.toFile()).redirectError(ProcessBuilder.Redirect.INHERIT).start();
            String printed = new String(run.getInputStream().readAllBytes(), StandardCharsets.UTF_8);
            isSo(run.waitFor() == 0, "the example's commands fail");
            isSo(printed.equals(block(readme, "text")), "the example prints\n" + printed);
        } finally {
            removeAll(place);
        }
    }

    /** What stands in the page's one block of this kind. */
    static String block(String readme, String kind) {
        String start = "\n```" + kind + "\n";
        int from = readme.indexOf(start);
        int to = readme.indexOf("\n```\n", from + start.length() - 1);
        boolean isOne = from >= 0 && to >= 0 && readme.indexOf(start, from + 1) < 0;
        isSo(isOne, "there is not one block of " + kind);
        return isOne ? readme.substring(from + start.length(), to + 1) : "";
    }

    static void removeAll(Path place) throws IOException {
        List<Path> files;
        try (Stream<Path> walk = Files.walk(place)) {
            files = walk.sorted(Comparator.reverseOrder()).collect(Collectors.toList());
        }
        for (Path file : files) {
            Files.delete(file);
        }
    }
}
