import java.io.IOException;
import java.nio.file.Files;
import java.nio.file.Path;
import java.util.ArrayList;
import java.util.LinkedHashMap;
import java.util.List;
import java.util.Map;

/** The document, sentence by sentence, and which of them tests tell of. */
final class Document {
    /** Sentences of which nothing can be tested that the others of their part do not say. */
    private static final List<String> BARE = List.of("Returns that.", "Returns d.", "Computes a checksum.",
            "The constructor and the methods follow, a promise each: the signature, then what it does.");

    private final Map<String, List<String>> parts = new LinkedHashMap<>();
    private final List<Sentence> tested = new ArrayList<>();

    Document(Path path) throws IOException {
        String part = "";
        for (String line : Files.readString(path).split("\n")) {
            if (line.startsWith("## ") || line.startsWith("== ")) {
                part = line.substring(3).replaceAll("(Promise \\d+):.*", "$1").strip();
                parts.put(part, new ArrayList<>());
            } else if (!line.isBlank() && !part.isEmpty()) {
                parts.get(part).addAll(List.of(line.strip().split("(?<=\\.)\\s+|(?<=\\.\\))\\s+")));
            }
        }
    }

    /** Tells what a test quotes wrongly. */
    void quote(Sentence sentence) {
        tested.add(sentence);
        String all = String.join(" ", parts.getOrDefault(sentence.in(), List.of()));
        if (!all.contains(sentence.says())) {
            Check.tell("the document does not say so");
        }
    }

    /** Tells each sentence of the description and of the promises that no test quotes. */
    void tellUntested() {
        parts.forEach((part, sentences) -> {
            for (String sentence : sentences) {
                if (isToBeTested(part, sentence) && tested.stream().noneMatch(s -> isOf(s, part, sentence))) {
                    Check.begin(part + ": " + sentence);
                    Check.tell("no test tells of this sentence");
                }
            }
        });
    }

    private static boolean isOf(Sentence tested, String part, String sentence) {
        return tested.in().equals(part) && (sentence.contains(tested.says()) || tested.says().contains(sentence));
    }

    /** What only names a parameter is none, nor is a signature or a heading. */
    private static boolean isToBeTested(String part, String sentence) {
        boolean isPart = part.equals("Description") || part.startsWith("Promise ") || part.matches("\\d\\. .*");
        boolean isName = sentence.startsWith("- ") && !sentence.matches(".*\\d.*") || sentence.startsWith("----");
        return isPart && !isName && !sentence.startsWith("`") && !BARE.contains(sentence);
    }
}
