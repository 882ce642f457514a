import java.io.IOException;
import java.nio.charset.StandardCharsets;
import java.nio.file.Files;
import java.nio.file.Path;
import java.util.ArrayList;
import java.util.Comparator;
import java.util.List;
import java.util.Set;
import java.util.TreeSet;
import java.util.regex.Matcher;
import java.util.regex.Pattern;
import java.util.stream.Collectors;
import java.util.stream.Stream;

/** README.md: its commands and programs do what it says, and what it names is there. */
public final class ReadmeTest {
    private static final Path README = Path.of("README.md");
    private static final Path DOCUMENT = Path.of("../shared/DOC.md");
    private static final Path TESTS = Path.of("src/test/java");
    private static final Pattern PROGRAM = Pattern.compile("(?s)```java\n(.*?)```");
    private static final Pattern COMMAND = Pattern.compile("(?m)^    ((?:javac|java) .*)$");
    private static final Pattern ANSWER =
        Pattern.compile("(?m)System\\.out\\.println\\(.*\\); *(?:// (.*?)(?: \\(.*\\))?)?$");
    private static final Due due = new Due("ReadmeTest");

    public static void main(String[] args) throws IOException, InterruptedException {
        String readme = Files.readString(README);
        programsAnswerAsShown(readme);
        exceptionsAreThoseOfTheDocument(readme);
        testsAreNamed(readme);
        filesAndCallsAreThere(readme);
        due.end();
    }

    /** Each command in its order, in a new folder that has the sources and the programs, as a reader would do it. */
    private static void programsAnswerAsShown(String readme) throws IOException, InterruptedException {
        Path folder = Files.createTempDirectory("readme");
        try {
            copySources(folder);
            List<String> programs = writePrograms(readme, folder);
            Set<String> ran = new TreeSet<>();
            for (String command : found(COMMAND, readme)) {
                String printed = run(command, folder);
                String last = command.substring(command.lastIndexOf(' ') + 1);
                if (programs.contains(last) && command.startsWith("java ")) {
                    ran.add(last);
                    String program = Files.readString(folder.resolve(last + ".java"));
                    due.same(command + " (what it prints)", answersShown(program), printed);
                }
            }
            due.is("programs", 2, programs::size);
            due.same("programs that are run", String.join(", ", new TreeSet<>(programs)), String.join(", ", ran));
        } finally {
            delete(folder);
        }
    }

    private static void copySources(Path folder) throws IOException {
        for (Path source : filesUnder(Path.of("src"))) {
            Path copy = folder.resolve(source);
            Files.createDirectories(copy.getParent());
            Files.copy(source, copy);
        }
    }

    private static List<String> writePrograms(String readme, Path folder) throws IOException {
        List<String> names = new ArrayList<>();
        for (String program : found(PROGRAM, readme)) {
            String name = found(Pattern.compile("public final class (\\w+)"), program).get(0);
            names.add(name);
            Files.writeString(folder.resolve(name + ".java"), program);
        }
        return names;
    }

    /** What stands behind the lines that print, without what is in brackets; these lines are run from top to bottom. */
    private static String answersShown(String program) {
        StringBuilder answers = new StringBuilder();
        for (String answer : found(ANSWER, program)) {
            answers.append(answer).append('\n');
        }
        return answers.toString();
    }

    private static String run(String command, Path folder) throws IOException, InterruptedException {
        Process process = new ProcessBuilder("sh", "-c", command).directory(folder.toFile())
            .redirectError(ProcessBuilder.Redirect.INHERIT).start();
        String printed = new String(process.getInputStream().readAllBytes(), StandardCharsets.UTF_8);
        int code = process.waitFor();
        due.same(command, "exit code 0", "exit code " + code);
        return printed;
    }

    private static void exceptionsAreThoseOfTheDocument(String readme) throws IOException {
        Set<String> named = new TreeSet<>();
        String face = face();
        Matcher entry = Pattern.compile("(?s)\n  - `(\\w+Exception)`: (.*?)(?=\n *- )").matcher(readme);
        while (entry.find()) {
            String exception = entry.group(1);
            named.add(exception);
            for (String inBrackets : found(Pattern.compile("\\((`[^()]*`)\\)"), entry.group(2))) {
                for (String call : found(Pattern.compile("`(\\w+)`"), inBrackets)) {
                    due.is(call + " throws " + exception, 1,
                        () -> found(Pattern.compile("( " + call + "\\(.*throws.*" + exception + ")"), face).size());
                }
            }
        }
        Set<String> thrown = new TreeSet<>(found(Pattern.compile("(\\w+Exception)"), face));
        due.same("exceptions", String.join(", ", thrown), String.join(", ", named));
    }

    private static String face() throws IOException {
        return Files.readString(DOCUMENT).replaceAll("(?s)^.*## The public face|## Terms.*$", "")
            .replaceAll("import .*;", "");
    }

    private static void testsAreNamed(String readme) throws IOException {
        Set<String> named = new TreeSet<>(found(Pattern.compile("`(\\w+Test)`"), readme));
        Set<String> there = new TreeSet<>();
        for (Path file : filesUnder(TESTS)) {
            there.addAll(found(Pattern.compile("(\\w+Test)\\.java$"), file.toString()));
        }
        due.same("tests", String.join(", ", there), String.join(", ", named));
    }

    private static void filesAndCallsAreThere(String readme) throws IOException {
        for (String path : found(Pattern.compile("`([\\w.]+/[\\w./]+)`"), readme)) {
            due.is("there is " + path, 1, () -> Files.exists(Path.of(path)) ? 1 : 0);
        }
        for (String script : found(Pattern.compile("(?m)^    bash (\\S+)$"), readme)) {
            due.is("there is " + script, 1, () -> Files.isExecutable(Path.of(script)) ? 1 : 0);
        }
        String face = face();
        for (String call : found(Pattern.compile("`([a-z]\\w*)`"), readme)) {
            boolean isCall = !Set.of("javac", "java", "shared", "ok").contains(call);
            due.is("there is " + call, 1, () -> !isCall || face.contains(" " + call + "(") ? 1 : 0);
        }
    }

    private static List<String> found(Pattern pattern, String text) {
        List<String> parts = new ArrayList<>();
        Matcher matcher = pattern.matcher(text);
        while (matcher.find()) {
            parts.add(matcher.group(1) == null ? "(nothing is shown)" : matcher.group(1));
        }
        return parts;
    }

    private static List<Path> filesUnder(Path folder) throws IOException {
        try (Stream<Path> paths = Files.walk(folder)) {
            return paths.filter(Files::isRegularFile).sorted().collect(Collectors.toList());
        }
    }

    private static void delete(Path folder) throws IOException {
        List<Path> inside;
        try (Stream<Path> paths = Files.walk(folder)) {
            inside = paths.sorted(Comparator.reverseOrder()).collect(Collectors.toList());
        }
        for (Path path : inside) {
            Files.delete(path);
        }
    }
}
