import java.io.IOException;
import java.nio.file.Files;
import java.nio.file.Path;
import java.util.ArrayList;
import java.util.Arrays;
import java.util.List;
import java.util.Map;
import java.util.TreeMap;

/** The document's sections as plain text, and which of their words some test has named. */
final class Document {
    private static final String TERMS = "Terms", FACE = "The public face", HEAD = "What it is";
    private static final int PROMISES = 31;

    private final Map<String, String> text = new TreeMap<>();
    private final Map<String, boolean[]> named = new TreeMap<>();

    Document(Path file) throws IOException {
        for (String part : Files.readString(file).split("(?m)^## ")) {
            int end = part.indexOf('\n');
            String title = part.substring(0, end).replaceAll(":.*", "").trim();
            String body = part.substring(end)
                    .replaceAll("(?m)^Ahead of the calls .*$", "")
                    .replaceAll("(?m)^=+ \\d ", "")
                    .replaceAll("(?m)^```\\w*$", "")
                    .replaceAll("(?m)^`[^`]*`: ", "");
            put(title, plain(body));
        }
    }

    private void put(String title, String body) {
        text.put(title, body);
        named.put(title, new boolean[body.length()]);
    }

    private static String plain(String words) {
        return words.replaceAll("\\s+", " ").trim();
    }

    /** Whether the sentence stands in the promise's section, or in one that holds for all. */
    boolean names(int promise, String sentence) {
        String words = plain(sentence);
        for (String title : Arrays.asList("Promise " + promise, TERMS, FACE, HEAD)) {
            String body = text.getOrDefault(title, "");
            int at = words.isEmpty() ? -1 : body.indexOf(words);
            if (at >= 0) {
                while (at >= 0) {
                    Arrays.fill(named.get(title), at, at + words.length(), true);
                    at = body.indexOf(words, at + 1);
                }
                return true;
            }
        }
        return false;
    }

    /** What no test has named, of the terms, the constants and the promises. */
    List<String> unnamed() {
        List<String> left = new ArrayList<>();
        for (int promise = 1; promise <= PROMISES; promise++) {
            addUnnamed(left, "Promise " + promise, 0, Integer.MAX_VALUE);
        }
        addUnnamed(left, TERMS, 0, Integer.MAX_VALUE);
        String face = text.getOrDefault(FACE, "");
        addUnnamed(left, FACE, face.indexOf("{") + 1, face.indexOf("public GuestStones()"));
        return left;
    }

    private void addUnnamed(List<String> left, String title, int from, int to) {
        String body = text.get(title);
        if (body == null) {
            left.add(title + " is not in the document");
            return;
        }
        int end = Math.min(to, body.length());
        int start = -1;
        for (int i = from; i <= end; i++) {
            boolean open = i < end && !named.get(title)[i];
            if (open && start < 0) {
                start = i;
            } else if (!open && start >= 0) {
                String words = body.substring(start, i);
                if (words.matches(".*\\w.*")) {
                    left.add(title + ": " + words.trim());
                }
                start = -1;
            }
        }
    }
}
