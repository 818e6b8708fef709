/**
 * All that a list tells: by being asked, then by taking all cuts back, then by being filled up.
 * Two lists with the same story are alike for their callers. A list whose story was told is of no more use.
 */
final class Story {
    private static final int MANY = 1000;

    /** A call whose answer is told, or else the exception that it throws. */
    interface Call {
        Object made();
    }

    private final TimberList list;
    private final StringBuilder text = new StringBuilder();
    private int boards = 0;
    private int parts = 0;

    private Story(TimberList list) {
        this.list = list;
    }

    static String of(TimberList list) {
        Story story = new Story(list);
        story.countBoardsAndParts();
        for (int board = 0; board < story.boards; board++) {
            story.tellBoard(board);
        }
        story.tellParts();
        story.takeAllBack();
        story.tellParts();
        story.tellJoinings();
        story.fillUp();
        return story.text.toString();
    }

    static String answerTo(Call call) {
        try {
            return String.valueOf(call.made());
        } catch (RuntimeException e) {
            return "throws." + Check.nameOf(e);
        }
    }

    private boolean tell(String what, Call call) {
        String answer = answerTo(call);
        text.append(what).append(": ").append(answer).append('\n');
        return !answer.startsWith("throws.");
    }

    private void countBoardsAndParts() {
        while (boards < MANY && tell("pieces " + boards, () -> list.pieces(boards))) {
            boards++;
        }
        while (parts < MANY && tell("left " + parts, () -> list.left(parts))) {
            parts++;
        }
        tell("used", () -> list.used());
        tell("digest", () -> list.digest());
    }

    private void tellBoard(int board) {
        tell("cuts " + board, () -> list.cuts(board));
        tell("longestRoom " + board, () -> list.longestRoom(board));
        for (int grade = 0; grade <= 3; grade++) {
            int of = grade;
            int count = list.stretches(board, of);
            for (int i = 0; i < count; i++) {
                int stretch = i;
                tell("start " + board + " " + of, () -> list.stretch(board, of, stretch, false));
                tell("end " + board + " " + of, () -> list.stretch(board, of, stretch, true));
            }
        }
        for (int i = 0; i < list.pieces(board); i++) {
            for (int w = 0; w <= 3; w++) {
                int piece = i;
                int what = w;
                tell("piece " + board + " " + piece + " " + what, () -> list.piece(board, piece, what));
            }
        }
    }

    /** Of many boards only each part's own one and the first one are asked, for the sake of the 512 calls. */
    private void tellParts() {
        for (int p = 0; p < parts; p++) {
            int part = p;
            tell("left " + part, () -> list.left(part));
            tell("earliest " + part, () -> list.earliest(part, 0));
            tell("earliest " + part, () -> list.earliest(part, boards == 0 ? 0 : part % boards));
        }
        tell("bestUse", () -> list.bestUse(0, 0, 3000));
    }

    private void takeAllBack() {
        int rounds = 0;
        while (rounds < MANY && tell("undo", () -> list.undo())) {
            rounds++;
        }
    }

    private void tellJoinings() {
        for (int p = 0; p < parts; p++) {
            int part = p;
            if (tell("join " + part, () -> list.join(part, 0, 0, 50, 0, 100))) {
                tell("undo", () -> list.undo());
            }
        }
    }

    private void fillUp() {
        tell("setSaw", () -> list.setSaw(5));
        tell("setJoint", () -> list.setJoint(7));
        tell("addDefect", () -> list.addDefect(0, 0, 1, 1));
        tell("addBoard", () -> list.addBoard(500, 77, 0));
        tell("addPart", () -> list.addPart(80, 77, 0, 2, false));
        tell("plan", () -> list.plan());
        tell("digest", () -> list.digest());
    }
}
