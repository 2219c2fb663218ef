import java.io.File;
import java.io.IOException;
import java.net.URL;
import java.net.URLClassLoader;
import java.nio.file.Files;
import java.nio.file.Path;
import java.util.ArrayList;
import java.util.Comparator;
import java.util.List;
import java.util.regex.Matcher;
import java.util.regex.Pattern;
import java.util.stream.Stream;

/** README.md as it stands: its example is compiled and run, its calls and its tests are those that there are. */
public final class ReadmeTests {
    private static final Path README = Path.of("README.md");
    private static final Path TESTS = Path.of("src/test/java");
    /** A call and, behind it, the answer that README.md tells. */
    private static final Pattern ANSWERED = Pattern.compile("(x\\.\\w+\\([^;]*\\));\\s*// (-?\\d+)\\b.*");

    private ReadmeTests() {
    }

    public static void main(String[] args) throws Exception {
        String readme = Files.readString(README);
        example(block(readme, "java"));
        everyCallIsNamed(readme);
        everyTestIsNamed(readme);
        Check.holds("the tests are run by .ci/run", block(readme, "sh").equals(List.of(".ci/run")));
        Check.holds(".ci/run can be run", Files.isExecutable(Path.of(".ci/run")));
        Check.end("ReadmeTests");
    }

    private static List<String> block(String readme, String language) {
        List<String> lines = new ArrayList<>();
        boolean inside = false;
        for (String line : readme.split("\n")) {
            if (line.startsWith("```")) {
                inside = line.equals("```" + language);
            } else if (inside) {
                lines.add(line);
            }
        }
        Check.holds("README.md has a block of " + language, !lines.isEmpty());
        return lines;
    }

    private static void example(List<String> lines) throws Exception {
        StringBuilder body = new StringBuilder();
        int answered = 0;
        for (String line : lines) {
            Matcher matcher = ANSWERED.matcher(line.trim());
            if (matcher.matches()) {
                answered++;
                body.append("answers.add((long) ").append(matcher.group(1)).append("); answers.add(")
                        .append(matcher.group(2)).append("L);\n");
            } else {
                Check.holds("an answer behind: " + line, !line.contains("//"));
                body.append(line).append('\n');
            }
        }
        Check.holds("answers in the example", answered >= 10);
        List<Long> answers = run(body.toString());
        for (int i = 0; i + 1 < answers.size(); i += 2) {
            Check.is("README.md's answer " + (i / 2 + 1), answers.get(i), answers.get(i + 1));
        }
        Check.is("answers that were looked at", answers.size(), 2L * answered);
    }

    @SuppressWarnings("unchecked")
    private static List<Long> run(String body) throws Exception {
        Path place = Files.createTempDirectory("readme");
        try {
            Path source = place.resolve("Example.java");
            Files.writeString(source, "public final class Example {\n"
                    + "public static java.util.List<Long> run() {\n"
                    + "java.util.List<Long> answers = new java.util.ArrayList<>();\n" + body
                    + "return answers;\n}\n}\n");
            int code = new ProcessBuilder("javac", "-cp", System.getProperty("java.class.path"),
                    "-d", place.toString(), source.toString()).inheritIO().start().waitFor();
            Check.is("README.md's example compiles", code, 0);
            if (code != 0) {
                return List.of();
            }
            try (URLClassLoader loader = new URLClassLoader(new URL[] {place.toUri().toURL()})) {
                return (List<Long>) loader.loadClass("Example").getMethod("run").invoke(null);
            }
        } finally {
            remove(place);
        }
    }

    private static void remove(Path place) throws IOException {
        try (Stream<Path> all = Files.walk(place)) {
            all.sorted(Comparator.reverseOrder()).map(Path::toFile).forEach(File::delete);
        }
    }

    private static void everyCallIsNamed(String readme) {
        for (java.lang.reflect.Method method : NeedleHands.class.getMethods()) {
            if (method.getDeclaringClass() == NeedleHands.class) {
                Check.holds("README.md tells of " + method.getName(), readme.contains("`" + method.getName() + "("));
            }
        }
    }

    private static void everyTestIsNamed(String readme) throws IOException {
        List<String> there = new ArrayList<>();
        try (Stream<Path> files = Files.list(TESTS)) {
            files.map(file -> file.getFileName().toString()).filter(name -> name.endsWith("Tests.java"))
                    .map(name -> name.substring(0, name.length() - ".java".length())).forEach(there::add);
        }
        for (String name : there) {
            Check.holds("README.md names " + name, readme.contains("`" + name + "`"));
        }
        Matcher named = Pattern.compile("`(\\w+Tests)`").matcher(readme);
        while (named.find()) {
            Check.holds(named.group(1) + " is there", there.contains(named.group(1)));
        }
    }
}
