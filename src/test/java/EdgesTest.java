import java.io.IOException;
import java.nio.file.Files;
import java.nio.file.Path;
import java.util.ArrayList;
import java.util.List;
import java.util.stream.Stream;

/**
 * The document's sentences one by one: src/test/edges has for each of them runs of calls with the
 * answers that are due (its README.md tells the form). No sentence of a promise or of the Terms may
 * stay without a run, and none may be told that the document doesn't have.
 */
public final class EdgesTest {
    private static final Path EDGES = Path.of("src/test/edges");
    private static final int PROMISES = 49;

    private final Check check = new Check();
    private final Document document;
    private EdgeRun run;
    private String place = "";
    private int duesOfBlock;
    private boolean isFirstBlock = true;

    private EdgesTest(Document document) {
        this.document = document;
    }

    public static void main(String[] args) throws IOException {
        EdgesTest test = new EdgesTest(new Document(Path.of("../shared/DOC.md")));
        for (Path file : filesOf(EDGES)) {
            test.read(file);
        }
        test.endBlock();
        test.checkThatAllIsTold();
        test.check.end();
    }

    private static List<Path> filesOf(Path folder) throws IOException {
        try (Stream<Path> files = Files.list(folder)) {
            return files.filter(file -> file.toString().endsWith(".txt")).sorted().toList();
        }
    }

    private void read(Path file) throws IOException {
        List<String> lines = Files.readAllLines(file);
        for (int i = 0; i < lines.size(); i++) {
            String line = lines.get(i).strip();
            place = file.getFileName() + ":" + (i + 1) + ": ";
            if (line.startsWith("== ")) {
                endBlock();
                beginBlock(line.substring(3));
            } else if (!line.isEmpty() && !line.startsWith("#")) {
                duesOfBlock += run.step(place, line);
            }
        }
    }

    private void beginBlock(String heading) {
        int colon = heading.indexOf(": ");
        boolean stands = colon > 0
            && document.tellsOf(heading.substring(0, colon), heading.substring(colon + 2));
        check.due(place + "the document has '" + heading + "'", stands ? 1 : 0, 1);
        run = new EdgeRun(check);
        duesOfBlock = 0;
        isFirstBlock = false;
    }

    private void endBlock() {
        if (!isFirstBlock) {
            check.due(place + "the sentence ahead has answers that are due", duesOfBlock > 0 ? 1 : 0, 1);
        }
    }

    private void checkThatAllIsTold() {
        List<String> sections = new ArrayList<>(List.of("Terms"));
        for (int promise = 1; promise <= PROMISES; promise++) {
            sections.add(String.valueOf(promise));
        }
        for (String section : sections) {
            String untold = document.untoldOf(section);
            check.due("without a run in " + section + ": " + untold, untold.length(), 0);
        }
    }
}
