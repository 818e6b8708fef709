/** Promises 10 to 18: ordinary inputs, the edges that the document names, wrong inputs. */
public final class CuttingTest {
    private static final Class<IllegalArgumentException> ARGUMENT = IllegalArgumentException.class;
    private static final Class<IllegalStateException> STATE = IllegalStateException.class;
    private static final Class<IndexOutOfBoundsException> INDEX = IndexOutOfBoundsException.class;
    private static final int[] NO_INDEX = {-1, 2, Integer.MIN_VALUE, Integer.MAX_VALUE};

    private static final Check check = new Check();

    public static void main(String[] args) {
        fits();
        fitsBesidePieces();
        earliest();
        cut();
        join();
        joinOnOneBoard();
        joinOrderOfExceptions();
        undo();
        planOrder();
        planBoards();
        planPlaces();
        left();
        pieces();
        piece();
        check.end("CuttingTest");
    }

    private static void fits() {
        TimberList list = Lists.striped();
        int[][] due = {{-1, 0}, {0, 1}, {1, 0}, {249, 0}, {250, 1}, {800, 1}, {801, 0}, {900, 0},
            {Integer.MIN_VALUE, 0}, {Integer.MAX_VALUE, 0}};
        for (int[] d : due) {
            check.is("10: fits at " + d[0], list.fits(0, 0, d[0]), d[1] == 1);
        }
        check.is("10: a part of grade 3 at the defects", list.fits(1, 0, 130), true);
        check.is("10: at the end", list.fits(1, 0, 960), true);
        check.is("10: over the end", list.fits(1, 0, 961), false);
        check.is("10: wider than the board", list.fits(0, 1, 0), false);
        list.addPart(100, 50, 0, 1, false);
        check.is("10: as wide and as long as the board", list.fits(2, 1, 0), true);
        check.is("10: a board of a worse grade", list.fits(2, 0, 0), false);
        list.cut(2, 1, 0);
        list.addBoard(100, 50, 0);
        check.is("10: a part that is not left", list.fits(2, 2, 0), true);
        for (int none : new int[] {-1, 3, Integer.MIN_VALUE, Integer.MAX_VALUE}) {
            check.refuses(INDEX, list, "10: fits of no part", () -> list.fits(none, 0, 0));
            check.refuses(INDEX, list, "10: fits of no board", () -> list.fits(0, none, 0));
        }
    }

    private static void fitsBesidePieces() {
        TimberList list = Lists.twoOfEach();
        list.cut(0, 0, 400);
        int[][] due = {{357, 1}, {358, 0}, {360, 0}, {420, 0}, {500, 0}, {502, 0}, {503, 1}};
        for (int[] d : due) {
            check.is("10: beside a piece at " + d[0], list.fits(1, 0, d[0]), d[1] == 1);
        }
        check.is("10: on the other board", list.fits(1, 1, 0), true);
        list.undo();
        list.setSaw(0);
        list.cut(0, 0, 400);
        check.is("10: ends may touch", list.fits(1, 0, 360), true);
        check.is("10: not overlap", list.fits(1, 0, 361), false);
        check.is("10: ends may touch behind", list.fits(1, 0, 500), true);
        check.is("10: not overlap behind", list.fits(1, 0, 499), false);
    }

    private static void earliest() {
        TimberList list = Lists.striped();
        check.is("11: at the beginning", list.earliest(0, 0), 0);
        list.cut(0, 0, 0);
        check.is("11: behind the defects", list.earliest(0, 0), 250);
        check.is("11: a part that bears them", list.earliest(1, 0), 103);
        list.cut(0, 0, 420);
        check.is("11: ahead of a piece", list.earliest(0, 0), 250);
        list.cut(1, 0, 348);
        check.is("11: between pieces is too little", list.earliest(0, 0), 523);
        check.is("11: wider than the board", list.earliest(0, 1), -1);
        check.is("11: the shorter board", list.earliest(1, 1), 0);
        list.cut(1, 1, 30);
        check.is("11: no place is left", list.earliest(1, 1), -1);
        check.is("11: a part that is not left", list.left(1), 0);
        check.is("11: its place", list.earliest(1, 0), 103);
        list.addPart(1000, 100, 3, 1, false);
        list.addPart(1001, 100, 3, 1, false);
        list.addBoard(1000, 100, 3);
        check.is("11: as long as the board", list.earliest(2, 2), 0);
        check.is("11: longer than the board", list.earliest(3, 2), -1);
        check.is("11: a board of a worse grade", list.earliest(0, 2), -1);
        for (int none : new int[] {-1, 4, Integer.MIN_VALUE, Integer.MAX_VALUE}) {
            check.refuses(INDEX, list, "11: earliest of no part", () -> list.earliest(none, 0));
            check.refuses(INDEX, list, "11: earliest on no board", () -> list.earliest(0, none));
        }
    }

    private static void cut() {
        TimberList list = Lists.twoOfEach();
        check.is("12: a first cut", list.cut(1, 0, 960), 1);
        check.is("12: its place", list.piece(0, 0, 1), 960);
        check.is("12: its end", list.piece(0, 0, 2), 1000);
        check.refuses(STATE, list, "12: on the piece", () -> list.cut(1, 0, 950));
        check.refuses(STATE, list, "12: nearer than the saw", () -> list.cut(1, 0, 918));
        check.is("12: a second cut", list.cut(1, 0, 917), 0);
        check.refuses(STATE, list, "12: a part that is not left", () -> list.cut(1, 1, 0));
        check.refuses(STATE, list, "12: wider than the board", () -> list.cut(0, 1, 0));
        check.refuses(STATE, list, "12: at no place", () -> list.cut(0, 0, -1));
        check.refuses(STATE, list, "12: far away", () -> list.cut(0, 0, Integer.MAX_VALUE));
        for (int none : NO_INDEX) {
            check.refuses(INDEX, list, "12: cut of no part", () -> list.cut(none, 0, 0));
            check.refuses(INDEX, list, "12: cut from no board", () -> list.cut(1, none, 0));
        }
        check.is("12: refused cuts take nothing", list.left(0), 9);
    }

    /** Room for joinings: board 0 of 1000, board 1 of 200, and part 0 of 100, for which a joint takes 10. */
    private static TimberList joinable() {
        TimberList list = new TimberList();
        list.addBoard(1000, 60, 1);
        list.addBoard(200, 60, 0);
        list.addBoard(200, 59, 0);
        list.addPart(100, 60, 1, 3, true);
        list.addPart(100, 60, 1, 3, false);
        list.addPart(100, 60, 0, 1, true);
        return list;
    }

    private static void join() {
        TimberList list = joinable();
        check.is("13: a joining from two boards", list.join(0, 0, 940, 60, 1, 150), 2);
        check.is("13: the first piece's part", list.piece(0, 0, 0), 0);
        check.is("13: the first piece's place", list.piece(0, 0, 1), 940);
        check.is("13: the first piece's end", list.piece(0, 0, 2), 1000);
        check.is("13: the first piece is of a joined part", list.piece(0, 0, 3), 1);
        check.is("13: the second piece's place", list.piece(1, 0, 1), 150);
        check.is("13: the second piece's end", list.piece(1, 0, 2), 200);
        check.is("13: the second piece is of a joined part", list.piece(1, 0, 3), 1);
        check.refuses(STATE, list, "13: the first one on a piece", () -> list.join(0, 0, 900, 60, 1, 0));
        check.refuses(STATE, list, "13: the second one on a piece", () -> list.join(0, 0, 0, 60, 1, 120));
        check.refuses(STATE, list, "13: the second one nearer than the saw", () -> list.join(0, 0, 0, 60, 1, 98));
        check.refuses(STATE, list, "13: a board that is too narrow", () -> list.join(0, 2, 0, 60, 0, 0));
        check.refuses(STATE, list, "13: a second board that is too narrow", () -> list.join(0, 0, 0, 60, 2, 0));
        check.refuses(STATE, list, "13: a board that is too bad", () -> list.join(2, 1, 0, 60, 0, 0));
        check.refuses(STATE, list, "13: the first one at no place", () -> list.join(0, 0, -1, 60, 1, 0));
        check.refuses(STATE, list, "13: the second one at no place", () -> list.join(0, 0, 0, 60, 1, -1));
        check.refuses(STATE, list, "13: far away", () -> list.join(0, 0, Integer.MAX_VALUE, 60, 1, Integer.MIN_VALUE));
        check.is("13: just the saw between", list.join(0, 0, 877, 60, 1, 97), 1);
        list.addDefect(0, 55, 56, 2);
        check.refuses(STATE, list, "13: a defect in it", () -> list.join(0, 0, 0, 60, 1, 0));
        check.is("13: ahead of the defect", list.join(0, 0, 0, 55, 1, 0), 0);
        check.refuses(STATE, list, "13: a part that is not left", () -> list.join(0, 0, 100, 60, 0, 200));
        check.refuses(STATE, list, "13: a part that may not be joined", () -> list.join(1, 0, 100, 60, 0, 200));
        check.is("13: it may be cut", list.cut(1, 0, 100), 2);
    }

    private static void joinOnOneBoard() {
        TimberList list = joinable();
        check.refuses(STATE, list, "13: one on the other", () -> list.join(0, 0, 0, 50, 0, 20));
        check.refuses(STATE, list, "13: both at one place", () -> list.join(0, 0, 0, 50, 0, 0));
        check.refuses(STATE, list, "13: too near", () -> list.join(0, 0, 0, 50, 0, 52));
        check.refuses(STATE, list, "13: too near, the second one ahead", () -> list.join(0, 0, 62, 50, 0, 0));
        check.is("13: the saw between", list.join(0, 0, 0, 50, 0, 53), 2);
        check.is("13: the second one ahead", list.join(0, 0, 263, 50, 0, 200), 1);
        check.is("13: pieces of it", list.pieces(0), 4);
        check.is("13: the third one's end", list.piece(0, 2, 2), 260);
        check.is("13: the fourth one's place", list.piece(0, 3, 1), 263);
        check.is("13: one of them beside others", list.join(0, 0, 500, 50, 1, 0), 0);
        TimberList touching = joinable();
        touching.setSaw(0);
        touching.setJoint(0);
        check.is("13: ends may touch", touching.join(0, 0, 0, 50, 0, 50), 2);
    }

    private static void joinOrderOfExceptions() {
        TimberList list = joinable();
        for (int none : new int[] {-1, 3, Integer.MIN_VALUE, Integer.MAX_VALUE}) {
            check.refuses(INDEX, list, "13: join of no part", () -> list.join(none, 0, 0, 1, 0, 0));
            check.refuses(INDEX, list, "13: join from no board", () -> list.join(1, none, 0, 1, 0, 0));
            check.refuses(INDEX, list, "13: join from no second board", () -> list.join(1, 0, 0, 1, none, 0));
        }
        for (int length : new int[] {49, 61, 0, -1, Integer.MIN_VALUE, Integer.MIN_VALUE + 110, Integer.MAX_VALUE}) {
            check.refuses(ARGUMENT, list, "13: join by " + length, () -> list.join(1, 0, 0, length, 0, 0));
        }
        list.setJoint(0);
        check.refuses(ARGUMENT, list, "13: join by 51 without a joint", () -> list.join(0, 0, 0, 51, 1, 0));
        check.is("13: join by 50 without a joint", list.join(0, 0, 0, 50, 1, 0), 2);
        list.setJoint(50);
        check.is("13: join by 100 with a joint of 50", list.join(0, 0, 100, 100, 1, 100), 1);
        list.cut(0, 0, 300);
        check.refuses(ARGUMENT, list, "13: join by 49 of a part that is not left", () -> list.join(0, 0, 0, 49, 1, 0));
        list.addPart(49, 10, 3, 1, true);
        list.setJoint(50);
        check.refuses(ARGUMENT, list, "13: too short for two", () -> list.join(3, 0, 500, 50, 0, 600));
    }

    private static void undo() {
        TimberList list = joinable();
        check.refuses(STATE, list, "14: undo of nothing", () -> list.undo());
        long empty = list.digest();
        list.cut(1, 0, 200);
        long one = list.digest();
        list.join(0, 0, 0, 50, 1, 0);
        long two = list.digest();
        list.join(2, 1, 63, 55, 1, 121);
        check.is("14: undo of a joining on one board", list.undo(), 2);
        check.is("14: as before", list.digest(), two);
        check.is("14: undo of a joining from two", list.undo(), 0);
        check.is("14: as before", list.digest(), one);
        check.is("14: undo of a cut", list.undo(), 1);
        check.is("14: as before", list.digest(), empty);
        check.refuses(STATE, list, "14: undo of nothing more", () -> list.undo());
        check.is("14: what was taken back can be cut again", list.cut(1, 0, 200), 2);
    }

    private static void planOrder() {
        TimberList list = new TimberList();
        list.addBoard(1000, 100, 0);
        list.addPart(50, 10, 0, 1, false);
        list.addPart(80, 10, 2, 1, false);
        list.addPart(80, 10, 1, 2, true);
        list.addPart(80, 10, 1, 1, false);
        list.addPart(1001, 10, 3, 1, true);
        list.addPart(50, 101, 3, 1, true);
        check.is("15: how many were cut", list.plan(), 5);
        int[] order = {2, 2, 3, 1, 0};
        for (int i = 0; i < order.length; i++) {
            check.is("15: part of piece " + i, list.piece(0, i, 0), order[i]);
            check.is("15: it is one piece", list.piece(0, i, 3), 0);
        }
        check.is("15: the last place", list.piece(0, 4, 2), 50 + 4 * 83);
        check.is("15: what cannot be cut is left", list.left(4), 1);
        check.is("15: planning again", list.plan(), 0);
        for (int i = order.length - 1; i >= 0; i--) {
            check.is("15: each cut is taken back by itself", list.undo(), order[i]);
        }
        check.refuses(STATE, list, "15: all are taken back", () -> list.undo());
    }

    private static void planBoards() {
        TimberList list = new TimberList();
        list.addBoard(500, 100, 0);
        list.addBoard(300, 100, 0);
        list.addBoard(300, 100, 0);
        list.addBoard(200, 100, 1);
        list.addBoard(200, 20, 0);
        list.addPart(190, 21, 0, 4, false);
        check.is("15: cuts from several boards", list.plan(), 4);
        check.is("15: the shortest board that can give it", list.piece(1, 0, 1), 0);
        check.is("15: then the second one", list.pieces(2), 1);
        check.is("15: then the longer one", list.pieces(0), 2);
        check.is("15: not the one of a worse grade", list.pieces(3), 0);
        check.is("15: not the narrow one", list.pieces(4), 0);
        for (int i = 0; i < 3; i++) {
            list.undo();
        }
        check.is("15: of equal boards the first one was first", list.pieces(1), 1);
    }

    private static void planPlaces() {
        TimberList rooms = new TimberList();
        rooms.addBoard(1000, 100, 0);
        rooms.addBoard(500, 100, 0);
        rooms.addPart(60, 10, 0, 1, false);
        rooms.addPart(120, 10, 0, 1, false);
        rooms.cut(0, 0, 800);
        check.is("15: one part", rooms.plan(), 1);
        check.is("15: only the earliest place of a board is looked at", rooms.pieces(1), 1);

        TimberList second = new TimberList();
        second.addBoard(1000, 100, 0);
        second.addBoard(500, 100, 0);
        second.addPart(60, 10, 0, 1, false);
        second.addPart(120, 10, 0, 1, false);
        second.cut(0, 0, 23);
        second.plan();
        check.is("15: a room ahead of the earliest place does not matter", second.pieces(1), 1);

        TimberList stretches = new TimberList();
        stretches.addBoard(300, 100, 0);
        stretches.addBoard(290, 100, 0);
        stretches.addDefect(0, 130, 300, 3);
        stretches.addPart(120, 10, 2, 1, false);
        stretches.plan();
        check.is("15: a room goes on over defects", stretches.pieces(1), 1);

        TimberList between = new TimberList();
        between.addBoard(400, 100, 0);
        between.addBoard(235, 100, 0);
        between.addPart(60, 10, 0, 2, false);
        between.addPart(100, 10, 0, 2, false);
        between.cut(0, 0, 0);
        between.cut(0, 0, 300);
        check.is("15: two parts", between.plan(), 2);
        check.is("15: the saw is no part of a room", between.piece(0, 1, 1), 63);
        check.is("15: then that room is the shorter one again", between.piece(0, 2, 1), 166);
        check.is("15: and the other board stays whole", between.pieces(1), 0);
    }

    private static void left() {
        TimberList list = Lists.twoOfEach();
        check.is("16: at first", list.left(0), 9);
        list.cut(0, 0, 0);
        check.is("16: after a cut", list.left(0), 8);
        list.join(0, 0, 200, 50, 0, 300);
        check.is("16: after a joining", list.left(0), 7);
        check.is("16: the other part", list.left(1), 2);
        list.plan();
        check.is("16: after planning", list.left(1), 0);
        list.undo();
        check.is("16: after undo", list.left(1), 1);
        for (int part : NO_INDEX) {
            check.refuses(INDEX, list, "16: left", () -> list.left(part));
        }
    }

    private static void pieces() {
        TimberList list = Lists.twoOfEach();
        check.is("17: at first", list.pieces(0), 0);
        list.cut(0, 0, 300);
        list.join(0, 0, 0, 50, 0, 100);
        check.is("17: a cut and a joining", list.pieces(0), 3);
        check.is("17: the other board", list.pieces(1), 0);
        list.undo();
        check.is("17: after undo", list.pieces(0), 1);
        for (int board : NO_INDEX) {
            check.refuses(INDEX, list, "17: pieces", () -> list.pieces(board));
        }
    }

    private static void piece() {
        TimberList list = Lists.twoOfEach();
        list.cut(1, 0, 500);
        list.join(0, 0, 600, 50, 0, 100);
        list.cut(0, 0, 200);
        int[][] due = {{0, 100, 160, 1}, {0, 200, 300, 0}, {1, 500, 540, 0}, {0, 600, 650, 1}};
        for (int i = 0; i < due.length; i++) {
            for (int what = 0; what < 4; what++) {
                check.is("18: piece " + i + ", " + what, list.piece(0, i, what), due[i][what]);
            }
        }
        for (int none : new int[] {-1, 4, Integer.MIN_VALUE, Integer.MAX_VALUE}) {
            check.refuses(INDEX, list, "18: no board", () -> list.piece(none, 0, 0));
            check.refuses(INDEX, list, "18: no piece", () -> list.piece(0, none, 0));
            check.refuses(INDEX, list, "18: no such what", () -> list.piece(0, 0, none));
        }
        check.refuses(INDEX, list, "18: a board without pieces", () -> list.piece(1, 0, 0));
    }
}
