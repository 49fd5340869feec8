import java.io.IOException;
import java.nio.file.Files;
import java.nio.file.Path;
import java.util.ArrayList;
import java.util.List;

/** The document: its sections, and what of them no test has quoted. */
final class Document {
    private static final String TEXT = read();

    private Document() {
    }

    private static String read() {
        Path path = Path.of(System.getProperty("document", "../shared/DOC.md"));
        try {
            return Files.readString(path).replaceAll("\\s+", " ");
        } catch (IOException e) {
            System.out.println("Document: " + path + " can't be read, so no quote is held against it");
            return "";
        }
    }

    /** What stands from one row of words to another one, the second left out. */
    static String section(String from, String to) {
        int start = TEXT.indexOf(from);
        int end = start < 0 ? -1 : TEXT.indexOf(to, start + from.length());
        return end < 0 ? "" : TEXT.substring(start, end);
    }

    /** What a promise says behind its signature. */
    static String promise(int n) {
        String all = section("## Promise " + n + ":", n == 44 ? "## Not promised" : "## Promise " + (n + 1) + ":");
        int at = all.indexOf(")`: ");
        return at < 0 ? "" : all.substring(at + 4);
    }

    /** Quotes that do not stand in a section, and what of it is in none of them. */
    static List<String> faults(String section, List<String> quotes) {
        List<String> faults = new ArrayList<>();
        if (TEXT.isEmpty()) {
            return faults;
        }
        if (section.isEmpty()) {
            faults.add("the section is not in the document");
        }
        char[] left = section.toCharArray();
        for (String quote : quotes) {
            int at = section.indexOf(quote);
            if (at < 0) {
                faults.add("this does not stand there: " + quote);
            }
            for (int i = at; at >= 0 && i < at + quote.length(); i++) {
                left[i] = ' ';
            }
        }
        String rest = new String(left).replaceAll("[ .;:,()`]+", " ").replace("text", "").trim();
        if (!rest.isEmpty()) {
            faults.add("this was not quoted: " + rest);
        }
        return faults;
    }
}
