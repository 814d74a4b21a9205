import java.io.IOException;
import java.nio.file.Files;
import java.nio.file.Path;
import java.util.ArrayList;
import java.util.List;

/**
 * The words of the document from its first line to its last promise, and which of them tests have quoted;
 * what is behind ("Not promised") says what is free.
 */
final class Document {
    private static final Path PLACE = Path.of("..", "shared", "DOC.md");
    private static final String WORDS = words();
    private static final boolean[] QUOTED = new boolean[WORDS.length()];

    private Document() {
    }

    private static String words() {
        StringBuilder kept = new StringBuilder();
        boolean within = true;
        for (String line : lines()) {
            if (line.startsWith("## ")) {
                within = !line.startsWith("## Not promised");
            } else if (within && !line.startsWith("# ") && !line.startsWith("```")) {
                kept.append(line).append(' ');
            }
        }
        return oneBlankEach(kept.toString());
    }

    /** The lines of the public face, from the class to its last method. */
    static List<String> face() {
        List<String> face = new ArrayList<>();
        boolean within = false;
        for (String line : lines()) {
            if (line.startsWith("```")) {
                within = line.equals("```java");
            } else if (within && line.contains("public")) {
                face.add(line.trim());
            }
        }
        return face;
    }

    private static List<String> lines() {
        try {
            return Files.readAllLines(PLACE);
        } catch (IOException e) {
            return List.of();
        }
    }

    private static String oneBlankEach(String s) {
        return s.trim().replaceAll("\\s+", " ");
    }

    /** What is wrong with these words; null if they stand in the document just once (or it isn't here). */
    static String quote(String words) {
        if (WORDS.isEmpty()) {
            return null;
        }
        String looked = oneBlankEach(words);
        int place = WORDS.indexOf(looked);
        if (place < 0) {
            return "the document does not say so";
        }
        if (WORDS.indexOf(looked, place + 1) >= 0) {
            return "the document says so more than once";
        }
        for (int k = place; k < place + looked.length(); k++) {
            QUOTED[k] = true;
        }
        return null;
    }

    /** All that no test has quoted, signs and blanks alone aside. */
    static List<String> leftOver() {
        List<String> left = new ArrayList<>();
        StringBuilder run = new StringBuilder();
        for (int k = 0; k <= WORDS.length(); k++) {
            if (k < WORDS.length() && !QUOTED[k]) {
                run.append(WORDS.charAt(k));
            } else {
                if (run.toString().matches("(?s).*[A-Za-z0-9].*")) {
                    left.add(run.toString().trim());
                }
                run.setLength(0);
            }
        }
        return left;
    }
}
