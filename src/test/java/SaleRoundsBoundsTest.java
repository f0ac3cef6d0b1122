import java.io.IOException;
import java.nio.file.Files;
import java.nio.file.Path;
import java.util.ArrayList;
import java.util.Comparator;
import java.util.List;

/**
 * Each sentence of the document that names a boundary, tested on both of its sides. The sentences stand in the
 * tests as the document has them, so it can be seen which of them has none.
 */
public final class SaleRoundsBoundsTest extends SaleRoundsChecks {
    private static final Path DOCUMENT = Path.of("../shared/DOC.md");

    /** The document's terms and promises in one row, without headings, signatures and the numbers of its parts. */
    private static String sentences() throws IOException {
        StringBuilder all = new StringBuilder();
        boolean within = false;
        for (String line : Files.readAllLines(DOCUMENT)) {
            if (line.startsWith("## ")) {
                within = line.equals("## Terms") || line.startsWith("## Promise");
            } else if (within && !line.startsWith("```")) {
                all.append(line.replaceAll("^`[^`]*`:", "").replaceAll("==== \\d\\.", "")).append(" ");
            }
        }
        return all.toString().replaceAll("\\s+", " ");
    }

    /** Only told, no fault: another wording of the document breaks no promise. */
    private static void tellUntested() throws IOException {
        if (!Files.exists(DOCUMENT)) {
            return;
        }
        String left = sentences();
        String all = left;
        // Longer ones go ahead, since a short one may stand within another.
        List<String> sentences = new ArrayList<>(said());
        sentences.sort(Comparator.comparingInt(String::length).reversed());
        for (String sentence : sentences) {
            if (!all.contains(sentence)) {
                System.out.println("not in the document: " + sentence);
            }
            left = left.replace(sentence, "\n");
        }
        for (String rest : left.split("\n")) {
            if (rest.matches(".*\\w.*")) {
                System.out.println("no test for: " + rest.trim());
            }
        }
    }

    public static void main(String[] args) throws IOException {
        TextBounds.run();
        SumBounds.run();
        RoundBounds.run();
        KnowBounds.run();
        RemedyBounds.run();
        FullBounds.run();
        tellUntested();
        close();
    }
}
