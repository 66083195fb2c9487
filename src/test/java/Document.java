import java.io.IOException;
import java.nio.file.Files;
import java.nio.file.Path;
import java.util.List;
import java.util.TreeMap;

/** What DOC.md says of each promise (number 0: of them all), and what of it a test names. */
final class Document {
    static final int PROMISES = 44;
    private static final Path PAGE = Path.of("../shared/DOC.md");
    /** Headings of the interface, which say nothing of what a call does. */
    private static final String[] HEADINGS = {
        "rows, texts, naves.", "deeds.", "by turns.", "chances, lots.", "what is told.",
    };

    private final TreeMap<Integer, String> sections = new TreeMap<>();

    Document() throws IOException {
        String page = Files.readString(PAGE);
        String terms = between(page, "\n## Terms\n", "\n## Promise 1:") + between(page, "\nAn object is used", "\n## ");
        sections.put(Says.TERMS, plain(terms).replace("for at most 512", "An object is used for at most 512"));
        for (int promise = 1; promise <= PROMISES; promise++) {
            String section = between(page, "\n## Promise " + promise + ": ", "\n## ");
            sections.put(promise, plain(section.substring(section.indexOf("`: ") + 3)));
        }
    }

    private static String between(String page, String ahead, String behind) {
        int from = page.indexOf(ahead);
        int to = from < 0 ? -1 : page.indexOf(behind, from + ahead.length());
        if (to < 0) {
            throw new IllegalStateException("no '" + ahead + "' .. '" + behind + "' in " + PAGE);
        }
        return page.substring(from + ahead.length(), to);
    }

    /** Without the marks of the page and the numbers of its parts, blanks and ends of lines all one blank. */
    private static String plain(String text) {
        return text.replaceAll("```(text)?", " ").replaceAll("Ahead of the calls[^:]*: ---- \\d", " ").replaceAll("={4,}( \\d)?", " ")
            .replaceAll("\\s+", " ");
    }

    boolean says(int promise, String sentence) {
        return sections.containsKey(promise) && sections.get(promise).contains(sentence);
    }

    /** What is left of a section's words when all that is named is taken out; nothing, if all is named. */
    String unnamed(int promise, List<String> sentences) {
        String section = sections.get(promise);
        StringBuilder left = new StringBuilder(section);
        for (String sentence : sentences) {
            takeOut(left, section, sentence);
        }
        for (String heading : HEADINGS) {
            if (promise == Says.TERMS) {
                takeOut(left, section, heading);
            }
        }
        return left.toString().replaceAll("[^A-Za-z0-9]+", " ").trim();
    }

    private static void takeOut(StringBuilder left, String section, String sentence) {
        for (int at = section.indexOf(sentence); at >= 0; at = section.indexOf(sentence, at + 1)) {
            left.replace(at, at + sentence.length(), " ".repeat(sentence.length()));
        }
    }
}
