import java.io.IOException;
import java.nio.file.Files;
import java.nio.file.Path;
import java.util.ArrayList;
import java.util.LinkedHashMap;
import java.util.List;
import java.util.Map;
import java.util.regex.Matcher;
import java.util.regex.Pattern;

/** DOC.md by parts, and which of its words a test has quoted. */
final class Document {
    /** What a clause says that names a boundary case: its words are to be quoted by a test. */
    private static final Pattern MARK = Pattern.compile("\\b(BAD|NOT|FULL|STATE|VOID|at most|at least|at first|none|nothing|nobody"
            + "|wraps?|like ones|too early|below 0|above 0|cut|empty|missing|lacks|toward 0|by 0|no such|alone|ends|not itself|kept"
            + "|not there|not so|one or more|as ever|as it may be|lowest bits|unlike|somebody|together)\\b"
            + "|(?<![\\w-])-(?:1[1-4]|5|100)\\b|\\d \\.\\. \\d+|\\(0:|\\(1 to 4|\\d on\\)");

    private final Map<String, String> parts = new LinkedHashMap<>();
    private final Map<String, boolean[]> quoted = new LinkedHashMap<>();

    Document(Path file) throws IOException {
        String text = Files.readString(file).replaceAll("\\s+", " ");
        between(text, "What it is", "## What it is", "## The public face");
        for (int k = 1; k <= 5; k++) {
            between(text, "Terms " + k, "======== " + k, k < 5 ? "======== " + (k + 1) : "Answers, of several");
        }
        between(text, "Answers", "Answers, of several", "Ahead of the calls");
        between(text, "Calls", "Ahead of the calls", "## Promise 1:");
        for (int k = 1; k <= 40; k++) {
            between(text, "Promise " + k, "## Promise " + k + ":", k < 40 ? "## Promise " + (k + 1) + ":" : "## Not promised");
        }
    }

    private void between(String text, String name, String first, String behind) {
        int from = text.indexOf(first);
        int to = text.indexOf(behind, from + first.length());
        if (from < 0 || to < 0) {
            throw new IllegalStateException("the document has no part " + name);
        }
        parts.put(name, text.substring(from, to));
        quoted.put(name, new boolean[to - from]);
    }

    /** Whether the words stand in that part; they are quoted from now on. */
    boolean quote(String part, String words) {
        String text = parts.getOrDefault(part, "");
        int at = text.indexOf(words);
        if (at < 0 || words.isEmpty()) {
            return false;
        }
        for (int k = at; k < at + words.length(); k++) {
            quoted.get(part)[k] = true;
        }
        return true;
    }

    /** Where a boundary case is named that nobody has quoted; the opening only tells again what the rest does. */
    List<String> unquoted() {
        List<String> left = new ArrayList<>();
        for (String part : parts.keySet()) {
            if (part.equals("What it is")) {
                continue;
            }
            String text = parts.get(part);
            Matcher mark = MARK.matcher(text);
            while (mark.find()) {
                if (!isQuoted(part, mark.start(), mark.end())) {
                    left.add(part + ": .. " + text.substring(Math.max(0, mark.start() - 40), Math.min(text.length(), mark.end() + 40)));
                }
            }
        }
        return left;
    }

    private boolean isQuoted(String part, int from, int to) {
        for (int k = from; k < to; k++) {
            if (!quoted.get(part)[k]) {
                return false;
            }
        }
        return true;
    }
}
