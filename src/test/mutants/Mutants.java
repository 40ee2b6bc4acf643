import java.io.IOException;
import java.nio.file.Files;
import java.nio.file.Path;
import java.util.ArrayList;
import java.util.List;
import java.util.Set;
import java.util.TreeSet;
import java.util.concurrent.TimeUnit;
import java.util.stream.Collectors;
import javax.tools.ToolProvider;

/**
 * Breaks the program at one sentence of the document after the other, as mutants.txt tells, and looks
 * whether BoundariesTest finds it by the test of that very sentence.
 */
public final class Mutants {
    private static final Path PROGRAM = Path.of("src/main/java/TwinHashTables.java");
    private static final Path LIST = Path.of("src/test/mutants/mutants.txt");
    private static final int SECONDS = 20;

    private static final class Mutant {
        final String section;
        final String sentence;
        final int number;
        final List<String> before = new ArrayList<>();
        final List<String> after = new ArrayList<>();

        Mutant(String section, String sentence, int number) {
            this.section = section;
            this.sentence = sentence;
            this.number = number;
        }

        @Override
        public String toString() {
            return section + ", \"" + sentence + "\": " + before + " -> " + after;
        }
    }

    /** Arguments: a directory for what is compiled, and where the classes of the tests are. */
    public static void main(String[] args) throws IOException {
        Path work = Path.of(args[0]);
        Path tests = Path.of(args[1]);
        String program = Files.readString(PROGRAM).replaceAll("(?s)/\\*.*?\\*/", "").replaceAll("//[^\n]*", "")
            .replaceAll("\\s+", " ");
        List<Mutant> mutants = read();
        List<String> left = mutants.parallelStream().map(mutant -> fate(mutant, program, work, tests))
            .filter(fate -> !fate.isEmpty()).collect(Collectors.toList());
        left.forEach(System.out::println);
        Set<String> sentences = new TreeSet<>();
        mutants.forEach(mutant -> sentences.add(mutant.section + mutant.sentence));
        System.out.println(mutants.size() + " mutants of " + sentences.size() + " sentences, " + left.size() + " not found");
        System.exit(left.isEmpty() ? 0 : 1);
    }

    private static List<Mutant> read() throws IOException {
        List<Mutant> mutants = new ArrayList<>();
        String section = "";
        for (String line : Files.readAllLines(LIST)) {
            if (line.startsWith("## ")) {
                section = line.substring(3);
            } else if (line.startsWith("# ")) {
                mutants.add(new Mutant(section, line.substring(2), mutants.size()));
            } else if (line.startsWith("- ") && !mutants.isEmpty()) {
                mutants.get(mutants.size() - 1).before.add(line.substring(2));
            } else if (line.startsWith("+") && !mutants.isEmpty()) {
                mutants.get(mutants.size() - 1).after.add(line.substring(1).strip());
            }
        }
        return mutants;
    }

    /** Nothing if the mutant was found by the test that is meant, otherwise what happened. */
    private static String fate(Mutant mutant, String program, Path work, Path tests) {
        try {
            String broken = program;
            for (int pair = 0; pair < mutant.before.size(); pair++) {
                String code = mutant.before.get(pair);
                int at = broken.indexOf(code);
                if (at < 0 || broken.indexOf(code, at + 1) >= 0) {
                    return "STANDS NOT ONCE " + mutant;
                }
                broken = broken.substring(0, at) + mutant.after.get(pair) + broken.substring(at + code.length());
            }
            Path directory = Files.createDirectories(work.resolve("mutant" + mutant.number));
            Path source = Files.writeString(directory.resolve("TwinHashTables.java"), broken);
            if (ToolProvider.getSystemJavaCompiler().run(null, null, null, "-d", directory.toString(), source.toString()) != 0) {
                return "DOES NOT COMPILE " + mutant;
            }
            return outcome(mutant, directory, tests);
        } catch (IOException | InterruptedException e) {
            return e + " " + mutant;
        }
    }

    private static String outcome(Mutant mutant, Path directory, Path tests) throws IOException, InterruptedException {
        Path output = directory.resolve("output");
        Process process = new ProcessBuilder("java", "-Xshare:auto", "-XX:TieredStopAtLevel=1", "-cp", directory + ":" + tests,
            "BoundariesTest").redirectErrorStream(true).redirectOutput(output.toFile()).start();
        if (!process.waitFor(SECONDS, TimeUnit.SECONDS)) {
            process.destroyForcibly().waitFor();
            return "";
        }
        if (process.exitValue() == 0) {
            return "NOT FOUND " + mutant;
        }
        String text = Files.readString(output);
        return text.contains("  " + mutant.section + ", \"" + mutant.sentence) ? "" : "FOUND BY OTHERS " + mutant + "\n"
            + text.lines().limit(4).collect(Collectors.joining("\n"));
    }
}
