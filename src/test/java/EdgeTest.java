import java.io.IOException;
import java.nio.file.Files;
import java.nio.file.Path;
import java.util.ArrayList;
import java.util.LinkedHashMap;
import java.util.List;
import java.util.Map;
import java.util.stream.Stream;

/**
 * Plays the runs under src/test/edges. Each stands behind the words of the document that it holds
 * the program to: "== Promise 12: drop" names the part of the document, "[REFUSED, if it is the only
 * STATE]" the words. They must stand in that part, and no sentence of it may be without a run; one
 * that names nothing that could be tried has a line "# names no edge" instead.
 */
public final class EdgeTest {
    private static final Path EDGES = Path.of("src/test/edges");
    private static final Path DOCUMENT = Path.of("../shared/DOC.md");
    private static final List<String> PARTS_LEFT_OUT = List.of("Leastreader", "The public face", "Not promised");

    /** The words, and the lines that stand behind them. */
    private record Run(String words, StringBuilder lines) {
    }

    private static final Map<String, List<String>> sentences = new LinkedHashMap<>();
    private static final Map<String, List<Run>> runs = new LinkedHashMap<>();
    private static final List<String> wrong = new ArrayList<>();

    public static void main(String[] args) throws IOException {
        readDocument();
        try (Stream<Path> files = Files.list(EDGES)) {
            for (Path file : files.sorted().toList()) {
                readRuns(file);
            }
        }
        checkWords();
        int played = playAll();
        wrong.forEach(System.out::println);
        System.out.println("EdgeTest: " + played + " runs, " + wrong.size() + " wrong");
        if (!wrong.isEmpty()) {
            System.exit(1);
        }
    }

    /** The sentences of each part; signatures and the face are none. */
    private static void readDocument() throws IOException {
        List<String> part = new ArrayList<>();
        boolean isCode = false;
        for (String line : Files.readAllLines(DOCUMENT)) {
            isCode ^= line.startsWith("```");
            if (line.matches("(#+|==) .*")) {
                part = sentences.computeIfAbsent(line.replaceAll("^(#+|==) ", ""), name -> new ArrayList<>());
            } else if (!isCode && !line.isBlank() && !line.matches("(`|====).*")) {
                part.addAll(List.of(line.strip().replaceAll("^- ", "").split("(?<=[.;]) ")));
            }
        }
        sentences.keySet().removeAll(PARTS_LEFT_OUT);
    }

    private static void readRuns(Path file) throws IOException {
        List<Run> part = null;
        for (String line : Files.readAllLines(file)) {
            if (line.startsWith("== ")) {
                part = runs.computeIfAbsent(line.substring(3), name -> new ArrayList<>());
            } else if (part != null && line.startsWith("[") && line.endsWith("]")) {
                part.add(new Run(line.substring(1, line.length() - 1), new StringBuilder()));
            } else if (part != null && !part.isEmpty()) {
                part.get(part.size() - 1).lines.append(line).append('\n');
            } else if (!line.isBlank() && !line.startsWith("#")) {
                wrong.add(file + ": no words stand ahead of " + line);
            }
        }
    }

    private static void checkWords() {
        for (String part : runs.keySet()) {
            if (!sentences.containsKey(part)) {
                wrong.add("the document has no part " + part);
            }
        }
        for (Map.Entry<String, List<String>> part : sentences.entrySet()) {
            String whole = String.join(" ", part.getValue());
            List<Run> held = runs.getOrDefault(part.getKey(), List.of());
            for (Run run : held) {
                if (!whole.contains(run.words)) {
                    wrong.add(part.getKey() + " does not say: " + run.words);
                }
            }
            for (String sentence : part.getValue()) {
                if (held.stream().noneMatch(run -> sentence.contains(run.words) || run.words.contains(sentence))) {
                    wrong.add(part.getKey() + ": no run for: " + sentence);
                }
            }
        }
    }

    private static int playAll() {
        Script script = new Script();
        int played = 0;
        for (Map.Entry<String, List<Run>> part : runs.entrySet()) {
            for (Run run : part.getValue()) {
                String lines = run.lines.toString();
                String name = part.getKey() + " [" + run.words + "]";
                if (lines.contains(" =")) {
                    script.play(name, lines);
                    played++;
                } else if (!lines.contains("# names no edge")) {
                    wrong.add(name + " has no calls");
                }
            }
        }
        wrong.addAll(script.wrong());
        return played;
    }
}
