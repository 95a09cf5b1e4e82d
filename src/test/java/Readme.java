import java.io.IOException;
import java.nio.file.Files;
import java.nio.file.Path;
import java.util.ArrayList;
import java.util.List;

/** README.md, cut into the parts that can be held against the project. */
final class Readme {
    /** The lines between two fences; the first of them has this number in the file. */
    record Block(int firstLine, List<String> lines) {
        String text() {
            return String.join("\n", lines) + "\n";
        }
    }

    private static final String FENCE = "```";

    private final List<String> lines;

    private Readme(List<String> lines) {
        this.lines = lines;
    }

    static Readme read() throws IOException {
        return new Readme(Files.readAllLines(Path.of("README.md")));
    }

    /** The fenced blocks of a language, in their order. */
    List<Block> blocks(String language) {
        List<Block> found = new ArrayList<>();
        int opened = -1;
        for (int k = 0; k < lines.size(); k++) {
            if (!lines.get(k).startsWith(FENCE)) {
                continue;
            }
            if (opened < 0) {
                opened = k;
                continue;
            }
            if (lines.get(opened).equals(FENCE + language)) {
                found.add(new Block(opened + 2, lines.subList(opened + 1, k)));
            }
            opened = -1;
        }
        return found;
    }

    /** The rows of the table whose first column has this head, without the head. */
    List<List<String>> rows(String head) {
        List<List<String>> found = new ArrayList<>();
        boolean inside = false;
        for (String line : lines) {
            if (line.startsWith("| " + head + " |")) {
                inside = true;
            } else if (!line.startsWith("|")) {
                inside = false;
            } else if (inside && !line.startsWith("|---")) {
                found.add(cut(line));
            }
        }
        return found;
    }

    private static List<String> cut(String row) {
        List<String> columns = new ArrayList<>();
        for (String column : row.substring(1, row.lastIndexOf('|')).split("\\|")) {
            columns.add(column.strip());
        }
        return columns;
    }

    /** A word of a table without the marks of code around it. */
    static String plain(String column) {
        return column.replace("`", "");
    }

    /** Whether these words stand there, wherever their lines are broken. */
    boolean says(String words) {
        return String.join(" ", lines).replaceAll("\\s+", " ").contains(words);
    }
}
