import java.io.IOException;
import java.nio.file.Files;
import java.nio.file.Path;
import java.util.ArrayList;
import java.util.List;

/** The example of README.md answers what is written behind its calls; run from the root of the checkout. */
public final class ReadmeTest {
    private final Check check = new Check();
    private final List<String> lines = new ArrayList<>();
    private int shown = 0;

    private ReadmeTest(String readme) {
        int start = readme.indexOf("```java\n");
        int end = readme.indexOf("```", start + 3);
        check.is("README.md has an example", start >= 0 && end > start, true);
        for (String line : start >= 0 && end > start ? readme.substring(start, end).split("\n") : new String[0]) {
            if (line.contains("list.")) {
                lines.add(line);
            }
        }
    }

    public static void main(String[] args) throws IOException {
        ReadmeTest test = new ReadmeTest(Files.readString(Path.of("README.md")));
        test.playExample();
        test.check.is("calls of the example that were looked at", test.shown, test.lines.size());
        test.check.end("ReadmeTest");
    }

    private void playExample() {
        TimberList list = new TimberList();
        int board = list.addBoard(1000, 100, 0);
        shows("int board = list.addBoard(1000, 100, 0);", board);
        shows("list.addDefect(board, 300, 320, 2);", list.addDefect(board, 300, 320, 2));
        int shelf = list.addPart(250, 80, 1, 3, false);
        shows("int shelf = list.addPart(250, 80, 1, 3, false);", shelf);
        int rail = list.addPart(400, 60, 1, 1, true);
        shows("int rail = list.addPart(400, 60, 1, 1, true);", rail);
        shows("list.stretches(board, 1);", list.stretches(board, 1));
        shows("list.stretch(board, 1, 1, false);", list.stretch(board, 1, 1, false));
        shows("list.fits(shelf, board, 51);", list.fits(shelf, board, 51));
        shows("list.earliest(rail, board);", list.earliest(rail, board));
        shows("list.bestUse(board, 1, 680);", list.bestUse(board, 1, 680));
        shows("list.cut(shelf, board, 0);", list.cut(shelf, board, 0));
        shows("list.join(rail, board, 320, 205, board, 528);", list.join(rail, board, 320, 205, board, 528));
        shows("list.cuts(board);", list.cuts(board));
        shows("list.undo();", list.undo());
        shows("list.plan();", list.plan());
        shows("list.pieces(board);", list.pieces(board));
        shows("list.piece(board, 1, 0);", list.piece(board, 1, 0));
        shows("list.piece(board, 1, 1);", list.piece(board, 1, 1));
        shows("list.piece(board, 1, 2);", list.piece(board, 1, 2));
        shows("list.piece(board, 1, 3);", list.piece(board, 1, 3));
        shows("list.left(shelf);", list.left(shelf));
        shows("list.longestRoom(board);", list.longestRoom(board));
        shows("list.used();", list.used());
    }

    /** The next line of the example has to be this call, with this answer behind it. */
    private void shows(String call, Object answer) {
        String line = shown < lines.size() ? lines.get(shown) : "";
        shown++;
        String[] halves = line.split(" *// *", 2);
        String told = halves.length < 2 ? "nothing" : halves[1].split(":", 2)[0].trim();
        check.is("the call on line " + shown + " of the example", halves[0], call);
        check.is("the answer of " + call, String.valueOf(answer), told);
    }
}
