/** Promises 1 to 9: ordinary inputs, the edges that the document names, wrong inputs. */
public final class BoardsAndPartsTest {
    private static final Class<IllegalArgumentException> ARGUMENT = IllegalArgumentException.class;
    private static final Class<IllegalStateException> STATE = IllegalStateException.class;
    private static final Class<IndexOutOfBoundsException> INDEX = IndexOutOfBoundsException.class;
    private static final int[] NO_INDEX = {-1, 2, Integer.MIN_VALUE, Integer.MAX_VALUE};

    private static final Check check = new Check();

    public static void main(String[] args) {
        aNewObject();
        addBoard();
        addDefect();
        addDefectUnderPieces();
        addPart();
        setSaw();
        setJoint();
        grade();
        stretches();
        stretch();
        check.end("BoardsAndPartsTest");
    }

    private static void aNewObject() {
        TimberList list = new TimberList();
        check.is("1: used of a new list", list.used(), 0.0);
        check.is("1: plan of a new list", list.plan(), 0);
        check.is("1: digest of a new list", list.digest(), Lists.numbers(3, 10, 0, 0, 0));
        check.refuses(INDEX, list, "1: left(0) of a new list", () -> list.left(0));
        check.refuses(INDEX, list, "1: pieces(0) of a new list", () -> list.pieces(0));
        check.is("1: the saw of a new list", list.setSaw(0), 3);
        check.is("1: the joint of a new list", list.setJoint(0), 10);
    }

    private static void addBoard() {
        TimberList list = new TimberList();
        int[][] wrong = {{99, 10, 0}, {3001, 10, 0}, {100, 9, 0}, {100, 401, 0}, {100, 10, -1}, {100, 10, 4},
            {Integer.MIN_VALUE, 10, 0}, {100, Integer.MAX_VALUE, 0}};
        for (int[] w : wrong) {
            check.refuses(ARGUMENT, list, "2: addBoard", () -> list.addBoard(w[0], w[1], w[2]));
        }
        check.is("2: the least board", list.addBoard(100, 10, 0), 0);
        check.is("2: the greatest board", list.addBoard(3000, 400, 3), 1);
        check.is("2: its last place's grade", list.grade(1, 2999), 3);
        for (int i = 2; i < 10; i++) {
            check.is("2: board", list.addBoard(500, 50, 1), i);
        }
        check.refuses(STATE, list, "2: the 11th board", () -> list.addBoard(500, 50, 1));
        check.refuses(ARGUMENT, list, "2: a wrong 11th board", () -> list.addBoard(99, 50, 1));
    }

    private static void addDefect() {
        TimberList list = Lists.twoOfEach();
        for (int board : NO_INDEX) {
            check.refuses(INDEX, list, "3: addDefect", () -> list.addDefect(board, 5, 5, 9));
        }
        int[][] wrong = {{-1, 5, 1}, {5, 5, 1}, {6, 5, 1}, {0, 101, 1}, {0, 1, 0}, {0, 1, 4},
            {Integer.MIN_VALUE, 5, 1}, {0, Integer.MAX_VALUE, 1}, {Integer.MAX_VALUE, Integer.MIN_VALUE, 1}};
        for (int[] w : wrong) {
            check.refuses(ARGUMENT, list, "3: addDefect", () -> list.addDefect(1, w[0], w[1], w[2]));
        }
        check.is("3: a defect of the whole board", list.addDefect(1, 0, 100, 1), 1);
        check.is("3: a defect of one place", list.addDefect(1, 99, 100, 3), 2);
        for (int i = 3; i <= 24; i++) {
            check.is("3: defect", list.addDefect(i % 2, 0, 1, 1), i);
        }
        check.refuses(STATE, list, "3: the 25th defect", () -> list.addDefect(0, 0, 1, 1));
        check.refuses(ARGUMENT, list, "3: a wrong 25th defect", () -> list.addDefect(0, 0, 0, 1));
        check.refuses(INDEX, list, "3: a 25th defect of no board", () -> list.addDefect(2, 0, 1, 1));
    }

    private static void addDefectUnderPieces() {
        TimberList list = Lists.twoOfEach();
        list.cut(0, 0, 100);
        check.refuses(STATE, list, "3: a defect in a piece", () -> list.addDefect(0, 150, 151, 2));
        check.refuses(STATE, list, "3: a defect at a piece's first place", () -> list.addDefect(0, 0, 101, 2));
        check.refuses(STATE, list, "3: a defect at a piece's last place", () -> list.addDefect(0, 199, 1000, 3));
        check.is("3: a refused defect is not there", list.grade(0, 150), 1);
        check.is("3: a defect that the piece bears", list.addDefect(0, 150, 151, 1), 1);
        check.is("3: a defect ahead of it", list.addDefect(0, 0, 100, 3), 2);
        check.is("3: a defect behind it", list.addDefect(0, 200, 300, 3), 3);
        check.is("3: a defect on the other board", list.addDefect(1, 0, 100, 3), 4);
        list.undo();
        check.is("3: a defect where the piece was", list.addDefect(0, 150, 151, 2), 5);
    }

    private static void addPart() {
        TimberList list = new TimberList();
        int[][] wrong = {{19, 10, 0, 1}, {3001, 10, 0, 1}, {20, 9, 0, 1}, {20, 401, 0, 1}, {20, 10, -1, 1},
            {20, 10, 4, 1}, {20, 10, 0, 0}, {20, 10, 0, 10}, {Integer.MIN_VALUE, 10, 0, 1}, {20, 10, 0, Integer.MAX_VALUE}};
        for (int[] w : wrong) {
            check.refuses(ARGUMENT, list, "4: addPart", () -> list.addPart(w[0], w[1], w[2], w[3], true));
        }
        check.is("4: the least part", list.addPart(20, 10, 0, 1, true), 0);
        check.is("4: the greatest part", list.addPart(3000, 400, 3, 9, false), 1);
        check.is("4: its count", list.left(1), 9);
        for (int i = 2; i < 12; i++) {
            check.is("4: part", list.addPart(50, 50, 1, 2, false), i);
        }
        check.refuses(STATE, list, "4: the 13th part", () -> list.addPart(50, 50, 1, 2, false));
        check.refuses(ARGUMENT, list, "4: a wrong 13th part", () -> list.addPart(50, 50, 1, 0, false));
    }

    private static void setSaw() {
        TimberList list = Lists.twoOfEach();
        for (int width : new int[] {-1, 11, Integer.MIN_VALUE, Integer.MAX_VALUE}) {
            check.refuses(ARGUMENT, list, "5: setSaw", () -> list.setSaw(width));
        }
        check.is("5: setSaw(10)", list.setSaw(10), 3);
        check.is("5: setSaw(0)", list.setSaw(0), 10);
        check.is("5: setSaw(7)", list.setSaw(7), 0);
        list.cut(0, 0, 0);
        check.refuses(STATE, list, "5: setSaw beside a piece", () -> list.setSaw(7));
        check.refuses(ARGUMENT, list, "5: setSaw(11) beside a piece", () -> list.setSaw(11));
        list.undo();
        check.is("5: setSaw when the piece is gone", list.setSaw(2), 7);
    }

    private static void setJoint() {
        TimberList list = Lists.twoOfEach();
        for (int length : new int[] {-1, 51, Integer.MIN_VALUE, Integer.MAX_VALUE}) {
            check.refuses(ARGUMENT, list, "6: setJoint", () -> list.setJoint(length));
        }
        check.is("6: setJoint(50)", list.setJoint(50), 10);
        check.is("6: setJoint(0)", list.setJoint(0), 50);
        list.cut(0, 0, 0);
        check.is("6: setJoint beside a piece", list.setJoint(20), 0);
        list.join(0, 0, 200, 70, 0, 300);
        check.is("6: a joining with it", list.piece(0, 2, 2), 350);
        list.setJoint(0);
        check.is("6: a later joint leaves the pieces", list.piece(0, 2, 2), 350);
    }

    private static void grade() {
        TimberList list = Lists.twoOfEach();
        list.addDefect(0, 10, 20, 3);
        list.addDefect(0, 15, 30, 2);
        int[][] due = {{0, 1}, {9, 1}, {10, 3}, {15, 3}, {19, 3}, {20, 2}, {29, 2}, {30, 1}, {999, 1}};
        for (int[] d : due) {
            check.is("7: grade at " + d[0], list.grade(0, d[0]), d[1]);
        }
        list.addBoard(100, 10, 3);
        list.addDefect(2, 0, 50, 1);
        check.is("7: a defect does not better a board", list.grade(2, 0), 3);
        check.is("7: the other board", list.grade(1, 10), 0);
        for (int place : new int[] {-1, 1000, Integer.MIN_VALUE, Integer.MAX_VALUE}) {
            check.refuses(INDEX, list, "7: grade", () -> list.grade(0, place));
        }
        check.refuses(INDEX, list, "7: grade behind the shorter board", () -> list.grade(1, 100));
        check.refuses(INDEX, list, "7: grade of no board", () -> list.grade(3, 0));
        check.refuses(INDEX, list, "7: grade of no board", () -> list.grade(-1, 0));
    }

    private static void stretches() {
        TimberList list = Lists.striped();
        check.is("8: stretches of a better grade", list.stretches(0, 0), 0);
        check.is("8: stretches of grade 1", list.stretches(0, 1), 2);
        check.is("8: stretches of grade 2", list.stretches(0, 2), 2);
        check.is("8: stretches of grade 3", list.stretches(0, 3), 1);
        check.is("8: stretches of a board without defects", list.stretches(1, 0), 1);
        list.addDefect(1, 0, 50, 1);
        list.addDefect(1, 50, 100, 2);
        check.is("8: none beside defects that meet", list.stretches(1, 0), 0);
        check.is("8: one ahead of the worse defect", list.stretches(1, 1), 1);
        list.cut(0, 0, 300);
        check.is("8: pieces do not matter", list.stretches(0, 1), 2);
        for (int board : NO_INDEX) {
            check.refuses(INDEX, list, "8: stretches", () -> list.stretches(board, 9));
        }
        for (int grade : new int[] {-1, 4, Integer.MIN_VALUE, Integer.MAX_VALUE}) {
            check.refuses(ARGUMENT, list, "8: stretches", () -> list.stretches(0, grade));
        }
    }

    private static void stretch() {
        TimberList list = Lists.striped();
        int[][] due = {{1, 0, 0, 100}, {1, 1, 250, 900}, {2, 0, 0, 150}, {2, 1, 250, 1000}, {3, 0, 0, 1000}};
        for (int[] d : due) {
            check.is("9: start of stretch", list.stretch(0, d[0], d[1], false), d[2]);
            check.is("9: end of stretch", list.stretch(0, d[0], d[1], true), d[3]);
        }
        list.addDefect(1, 0, 1, 1);
        check.is("9: a stretch behind a defect at the beginning", list.stretch(1, 0, 0, false), 1);
        check.is("9: its end", list.stretch(1, 0, 0, true), 100);
        for (int stretch : new int[] {-1, 2, Integer.MIN_VALUE, Integer.MAX_VALUE}) {
            check.refuses(ARGUMENT, list, "9: stretch", () -> list.stretch(0, 1, stretch, true));
        }
        check.refuses(ARGUMENT, list, "9: no stretch at all", () -> list.stretch(0, 0, 0, false));
        check.refuses(ARGUMENT, list, "9: grade -1", () -> list.stretch(0, -1, 0, false));
        check.refuses(ARGUMENT, list, "9: grade 4", () -> list.stretch(0, 4, 0, false));
        for (int board : NO_INDEX) {
            check.refuses(INDEX, list, "9: stretch", () -> list.stretch(board, 9, 9, true));
        }
    }
}
