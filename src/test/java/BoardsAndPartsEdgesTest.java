import java.util.function.Supplier;

/** Promises 1 to 9: for each sentence that names a boundary case a test of its own, named by the sentence. */
public final class BoardsAndPartsEdgesTest {
    private static final Edges edges = new Edges();
    private static final Supplier<TimberList> NEW = TimberList::new;
    private static final Supplier<TimberList> BUSY = Lists::busy;
    private static final Supplier<TimberList> FULL = Lists::full;

    public static void main(String[] args) {
        createsAListWithoutBoardsAndParts();
        askedForWhatANewListHasNot();
        boardLength();
        boardWidth();
        boardGrade();
        boardsAreTen();
        boardExceptionsInOrder();
        defectOfNoBoard();
        defectFrom();
        defectTo();
        defectGrade();
        defectsAreTwentyFour();
        defectUnderAPiece();
        defectBesideAPiece();
        defectExceptionsInOrder();
        partLength();
        partWidth();
        partGrade();
        partCount();
        partsAreTwelve();
        partExceptionsInOrder();
        sawWidth();
        sawWhileThereIsAPiece();
        jointLength();
        gradeOfNoBoardOrPlace();
        gradeIsTheGreatest();
        stretchesOfNoBoard();
        stretchesForNoGrade();
        stretchesAreTheLongestRows();
        stretchesOfManyDefects();
        stretchOfNoBoard();
        stretchForNoGrade();
        noSuchStretch();
        edges.end("BoardsAndPartsEdgesTest");
    }

    // ---- 1: Creates a list without boards and parts.

    private static void createsAListWithoutBoardsAndParts() {
        edges.asks(0, "1: plan", NEW, list -> list.plan());
        edges.asks(0.0, "1: used", NEW, list -> list.used());
        edges.asks(Lists.numbers(3, 10, 0, 0, 0), "1: digest", NEW, list -> list.digest());
        edges.answers(0, "1: the first board", NEW, list -> list.addBoard(100, 10, 0));
        edges.answers(0, "1: the first part", NEW, list -> list.addPart(20, 10, 0, 1, false));
        edges.answers(3, "1: the saw has 3 at first", NEW, list -> list.setSaw(0));
        edges.answers(10, "1: a joint takes 10 at first", NEW, list -> list.setJoint(0));
        TimberList other = Lists.full();
        other.setSaw(9);
        other.setJoint(9);
        edges.asks(Lists.numbers(3, 10, 0, 0, 0), "1: beside another list", NEW, list -> list.digest());
    }

    private static void askedForWhatANewListHasNot() {
        edges.refuses(Edges.INDEX, "1: addDefect", NEW, list -> list.addDefect(0, 0, 1, 1));
        edges.refuses(Edges.INDEX, "1: grade", NEW, list -> list.grade(0, 0));
        edges.refuses(Edges.INDEX, "1: stretches", NEW, list -> list.stretches(0, 0));
        edges.refuses(Edges.INDEX, "1: stretch", NEW, list -> list.stretch(0, 0, 0, false));
        edges.refuses(Edges.INDEX, "1: fits", NEW, list -> list.fits(0, 0, 0));
        edges.refuses(Edges.INDEX, "1: earliest", NEW, list -> list.earliest(0, 0));
        edges.refuses(Edges.INDEX, "1: cut", NEW, list -> list.cut(0, 0, 0));
        edges.refuses(Edges.INDEX, "1: join", NEW, list -> list.join(0, 0, 0, 50, 0, 0));
        edges.refuses(Edges.STATE, "1: undo", NEW, list -> list.undo());
        edges.refuses(Edges.INDEX, "1: left", NEW, list -> list.left(0));
        edges.refuses(Edges.INDEX, "1: pieces", NEW, list -> list.pieces(0));
        edges.refuses(Edges.INDEX, "1: piece", NEW, list -> list.piece(0, 0, 0));
        edges.refuses(Edges.INDEX, "1: cuts", NEW, list -> list.cuts(0));
        edges.refuses(Edges.INDEX, "1: longestRoom", NEW, list -> list.longestRoom(0));
        edges.refuses(Edges.INDEX, "1: bestUse", NEW, list -> list.bestUse(0, 0, 0));
    }

    // ---- 2: addBoard

    private static void boardLength() {
        for (int length : Edges.outside(100, 3000)) {
            edges.refuses(Edges.ARGUMENT, "2: length is not 100 to 3000: " + length, NEW,
                list -> list.addBoard(length, 10, 0));
            edges.refuses(Edges.ARGUMENT, "2: length beside others: " + length, BUSY,
                list -> list.addBoard(length, 10, 0));
        }
        for (int length : new int[] {100, 101, 2999, 3000}) {
            Supplier<TimberList> one = () -> Lists.oneBoard(length, 10, 0);
            edges.answers(0, "2: a length of " + length, NEW, list -> list.addBoard(length, 10, 0));
            edges.asks(length, "2: that long is it: " + length, one, list -> list.longestRoom(0));
            edges.asks(0, "2: its last place: " + length, one, list -> list.grade(0, length - 1));
        }
    }

    private static void boardWidth() {
        for (int width : Edges.outside(10, 400)) {
            edges.refuses(Edges.ARGUMENT, "2: width is not 10 to 400: " + width, NEW,
                list -> list.addBoard(100, width, 0));
            edges.refuses(Edges.ARGUMENT, "2: width beside others: " + width, BUSY,
                list -> list.addBoard(100, width, 0));
        }
        for (int width : new int[] {10, 11, 399, 400}) {
            edges.answers(0, "2: a width of " + width, NEW, list -> list.addBoard(100, width, 0));
            edges.answers(200.0 / (100.0 * width), "2: that wide is it: " + width, () -> Lists.oneBoard(100, width, 0),
                list -> {
                    list.addPart(20, 10, 0, 1, false);
                    list.cut(0, 0, 0);
                    return list.used();
                });
        }
    }

    private static void boardGrade() {
        for (int grade : Edges.outside(0, 3)) {
            edges.refuses(Edges.ARGUMENT, "2: grade is not 0 to 3: " + grade, NEW,
                list -> list.addBoard(100, 10, grade));
            edges.refuses(Edges.ARGUMENT, "2: grade beside others: " + grade, BUSY,
                list -> list.addBoard(100, 10, grade));
        }
        for (int grade = 0; grade <= 3; grade++) {
            int of = grade;
            edges.answers(0, "2: a grade of " + of, NEW, list -> list.addBoard(100, 10, of));
            edges.asks(of, "2: of that grade is it: " + of, () -> Lists.oneBoard(100, 10, of),
                list -> list.grade(0, 0));
        }
    }

    private static void boardsAreTen() {
        for (int count = 0; count < 10; count++) {
            int before = count;
            Supplier<TimberList> some = () -> boards(before);
            edges.answers(before, "2: numbered from 0 in the order of their creation", some,
                list -> list.addBoard(100, 10, 0));
        }
        Supplier<TimberList> ten = () -> boards(10);
        edges.refuses(Edges.STATE, "2: there are 10 boards", ten, list -> list.addBoard(100, 10, 0));
        edges.refuses(Edges.STATE, "2: there are 10 boards in the full list", FULL,
            list -> list.addBoard(3000, 400, 3));
        edges.asks(0, "2: the 10th one is there", ten, list -> list.pieces(9));
        edges.asks(109, "2: each one keeps its own length", ten, list -> list.longestRoom(9));
        edges.asks(100, "2: also the first one", ten, list -> list.longestRoom(0));
    }

    private static TimberList boards(int count) {
        TimberList list = new TimberList();
        for (int i = 0; i < count; i++) {
            list.addBoard(100 + i, 10, 0);
        }
        return list;
    }

    private static void boardExceptionsInOrder() {
        edges.refuses(Edges.ARGUMENT, "2: a wrong length ahead of 10 boards", FULL, list -> list.addBoard(99, 10, 0));
        edges.refuses(Edges.ARGUMENT, "2: a wrong width ahead of 10 boards", FULL, list -> list.addBoard(100, 401, 0));
        edges.refuses(Edges.ARGUMENT, "2: a wrong grade ahead of 10 boards", FULL, list -> list.addBoard(100, 10, 4));
    }

    // ---- 3: addDefect

    private static void defectOfNoBoard() {
        for (int board : Edges.outside(2)) {
            edges.refuses(Edges.INDEX, "3: there is no such board: " + board, BUSY,
                list -> list.addDefect(board, 0, 1, 1));
        }
        for (int board : Edges.outside(10)) {
            edges.refuses(Edges.INDEX, "3: none in the full list: " + board, FULL,
                list -> list.addDefect(board, 0, 1, 1));
        }
        edges.answers(4, "3: the last board", BUSY, list -> list.addDefect(1, 0, 1, 1));
        edges.answers(4, "3: the first board", BUSY, list -> list.addDefect(0, 0, 1, 1));
    }

    private static void defectFrom() {
        for (int from : new int[] {-1, -2, Edges.LEAST, Edges.LEAST + 1}) {
            edges.refuses(Edges.ARGUMENT, "3: from is less than 0: " + from, BUSY,
                list -> list.addDefect(0, from, 5, 1));
            edges.refuses(Edges.ARGUMENT, "3: so is to: " + from, BUSY, list -> list.addDefect(0, from, from + 1, 1));
        }
        Supplier<TimberList> one = () -> Lists.oneBoard(100, 10, 0);
        edges.answers(1, "3: from 0 on", one, list -> list.addDefect(0, 0, 1, 2));
        Supplier<TimberList> first = () -> withDefects(new int[][] {{}, {0, 1}});
        edges.asks(2, "3: its place", first, list -> list.grade(0, 0));
        edges.asks(0, "3: the place behind it", first, list -> list.grade(0, 1));
        edges.answers(1, "3: from the last place on", one, list -> list.addDefect(0, 99, 100, 2));
        Supplier<TimberList> last = () -> withDefects(new int[][] {{}, {99, 100}});
        edges.asks(2, "3: the last place", last, list -> list.grade(0, 99));
        edges.asks(0, "3: the place ahead of it", last, list -> list.grade(0, 98));
    }

    private static void defectTo() {
        int[][] notGreater = {{0, 0}, {1, 0}, {5, 5}, {5, 4}, {100, 100}, {5, -1}, {5, Edges.LEAST}, {0, Edges.LEAST},
            {Edges.GREATEST, Edges.GREATEST}, {Edges.GREATEST, Edges.LEAST}, {Edges.GREATEST, 100}};
        for (int[] d : notGreater) {
            edges.refuses(Edges.ARGUMENT, "3: to is not greater than from: " + d[0] + " " + d[1], BUSY,
                list -> list.addDefect(0, d[0], d[1], 1));
        }
        int[][] behind = {{0, 301}, {299, 301}, {300, 301}, {301, 302}, {0, 1000}, {0, Edges.GREATEST},
            {299, Edges.GREATEST}, {Edges.GREATEST - 1, Edges.GREATEST}, {-1, 301}};
        for (int[] d : behind) {
            edges.refuses(Edges.ARGUMENT, "3: to is greater than the length of the board: " + d[0] + " " + d[1], BUSY,
                list -> list.addDefect(1, d[0], d[1], 1));
        }
        Supplier<TimberList> one = () -> Lists.oneBoard(3000, 10, 0);
        edges.answers(1, "3: the whole board", one, list -> list.addDefect(0, 0, 3000, 1));
        edges.answers(0, "3: nothing is left of it", one,
            list -> list.addDefect(0, 0, 3000, 1) == 1 ? list.stretches(0, 0) : -1);
        edges.answers(1, "3: to is one more than from", one, list -> list.addDefect(0, 7, 8, 1));
    }

    private static void defectGrade() {
        for (int grade : Edges.outside(1, 3)) {
            edges.refuses(Edges.ARGUMENT, "3: grade is not 1 to 3: " + grade, BUSY,
                list -> list.addDefect(0, 0, 1, grade));
        }
        Supplier<TimberList> one = () -> Lists.oneBoard(100, 10, 0);
        for (int grade = 1; grade <= 3; grade++) {
            int of = grade;
            edges.answers(of, "3: a grade of " + of, one,
                list -> list.addDefect(0, 0, 1, of) == 1 ? list.grade(0, 0) : -1);
        }
    }

    private static void defectsAreTwentyFour() {
        for (int count : new int[] {0, 1, 22, 23}) {
            edges.answers(count + 1, "3: the number of defects then", () -> defects(count, 2),
                list -> list.addDefect(0, 0, 1, 1));
            edges.answers(count + 1, "3: of all boards", () -> defects(count, 1), list -> list.addDefect(1, 0, 1, 1));
        }
        edges.refuses(Edges.STATE, "3: there are 24 defects", () -> defects(24, 2), list -> list.addDefect(0, 0, 1, 1));
        edges.refuses(Edges.STATE, "3: all of one board", () -> defects(24, 1), list -> list.addDefect(0, 0, 1, 1));
        edges.refuses(Edges.STATE, "3: all of the other board", () -> defects(24, 1),
            list -> list.addDefect(1, 0, 1, 1));
        edges.refuses(Edges.STATE, "3: there are 24 in the full list", FULL, list -> list.addDefect(9, 0, 1, 1));
        edges.asks(3, "3: the 24th one is there", () -> defects(24, 1), list -> list.grade(0, 23));
        edges.refuses(Edges.STATE, "3: undo takes no defect back", () -> defects(22, 1), list -> list.undo());
    }

    /** So many defects of one place each, on the first boards of two in turn. */
    private static TimberList defects(int count, int boards) {
        TimberList list = boards(2);
        for (int i = 0; i < count; i++) {
            list.addDefect(i % boards, i, i + 1, 3);
        }
        return list;
    }

    /** Part 0 of grade 1 is cut from 100 to 200, and joined from 300 to 360 and 400 to 450, on a board of grade 0. */
    private static TimberList cutAndJoined() {
        TimberList list = boards(0);
        list.addBoard(500, 10, 0);
        list.addBoard(500, 10, 0);
        list.addPart(100, 10, 1, 3, true);
        list.cut(0, 0, 100);
        list.join(0, 0, 300, 60, 0, 400);
        return list;
    }

    private static void defectUnderAPiece() {
        int[][] under = {{100, 101}, {199, 200}, {150, 151}, {100, 200}, {0, 101}, {199, 500}, {0, 500}, {99, 201},
            {300, 301}, {359, 360}, {400, 401}, {449, 450}, {420, 421}, {200, 301}, {359, 401}};
        for (int[] d : under) {
            edges.refuses(Edges.STATE, "3: a piece that was cut would not be possible: " + d[0] + " " + d[1],
                BoardsAndPartsEdgesTest::cutAndJoined, list -> list.addDefect(0, d[0], d[1], 2));
            edges.refuses(Edges.STATE, "3: nor with grade 3: " + d[0] + " " + d[1],
                BoardsAndPartsEdgesTest::cutAndJoined, list -> list.addDefect(0, d[0], d[1], 3));
            edges.answers(1, "3: it is with grade 1: " + d[0] + " " + d[1],
                BoardsAndPartsEdgesTest::cutAndJoined, list -> list.addDefect(0, d[0], d[1], 1));
            edges.answers(1, "3: on the other board: " + d[0] + " " + d[1],
                BoardsAndPartsEdgesTest::cutAndJoined, list -> list.addDefect(1, d[0], d[1], 3));
            edges.answers(1, "3: when nothing is cut any more: " + d[0] + " " + d[1],
                BoardsAndPartsEdgesTest::cutAndJoined, list -> {
                    takeBack(list, 2);
                    return list.addDefect(0, d[0], d[1], 3);
                });
        }
    }

    private static void defectBesideAPiece() {
        int[][] beside = {{0, 100}, {99, 100}, {98, 99}, {200, 201}, {201, 202}, {200, 300}, {299, 300}, {360, 361},
            {399, 400}, {360, 400}, {450, 500}, {499, 500}};
        for (int[] d : beside) {
            edges.answers(1, "3: beside the pieces, be it nearer than the saw: " + d[0] + " " + d[1],
                BoardsAndPartsEdgesTest::cutAndJoined, list -> list.addDefect(0, d[0], d[1], 3));
        }
    }

    private static void defectExceptionsInOrder() {
        Supplier<TimberList> both = () -> {
            TimberList list = defects(24, 1);
            list.addPart(20, 10, 0, 1, false);
            list.cut(0, 0, 50);
            return list;
        };
        edges.refuses(Edges.INDEX, "3: no board ahead of a wrong from", both, list -> list.addDefect(2, -1, 5, 1));
        edges.refuses(Edges.INDEX, "3: no board ahead of a wrong to", both, list -> list.addDefect(-1, 5, 5, 1));
        edges.refuses(Edges.INDEX, "3: no board ahead of a wrong grade", both, list -> list.addDefect(2, 0, 5, 0));
        edges.refuses(Edges.INDEX, "3: no board ahead of 24 defects", both, list -> list.addDefect(2, 0, 5, 1));
        edges.refuses(Edges.ARGUMENT, "3: a wrong from ahead of 24 defects", both, list -> list.addDefect(0, -1, 5, 1));
        edges.refuses(Edges.ARGUMENT, "3: a wrong to ahead of 24 defects", both, list -> list.addDefect(0, 50, 101, 1));
        edges.refuses(Edges.ARGUMENT, "3: a wrong grade ahead of 24 defects", both,
            list -> list.addDefect(0, 50, 51, 4));
        edges.refuses(Edges.ARGUMENT, "3: a wrong grade ahead of a piece", BoardsAndPartsEdgesTest::cutAndJoined,
            list -> list.addDefect(0, 100, 101, 4));
        edges.refuses(Edges.ARGUMENT, "3: a wrong to ahead of a piece", BoardsAndPartsEdgesTest::cutAndJoined,
            list -> list.addDefect(0, 100, 501, 3));
        edges.refuses(Edges.STATE, "3: 24 defects, and a piece", both, list -> list.addDefect(0, 50, 51, 3));
    }

    // ---- 4: addPart

    private static void partLength() {
        for (int length : Edges.outside(20, 3000)) {
            edges.refuses(Edges.ARGUMENT, "4: length is not 20 to 3000: " + length, NEW,
                list -> list.addPart(length, 10, 0, 1, true));
            edges.refuses(Edges.ARGUMENT, "4: length beside others: " + length, BUSY,
                list -> list.addPart(length, 10, 0, 1, false));
        }
        for (int length : new int[] {20, 21, 2999, 3000}) {
            edges.answers(0, "4: a length of " + length, NEW, list -> list.addPart(length, 10, 0, 1, true));
            edges.answers(length, "4: that long is it: " + length, () -> Lists.oneBoard(3000, 10, 0),
                list -> list.addPart(length, 10, 0, 1, true) + list.cut(0, 0, 0) == 0 ? list.piece(0, 0, 2) : -1);
        }
    }

    private static void partWidth() {
        for (int width : Edges.outside(10, 400)) {
            edges.refuses(Edges.ARGUMENT, "4: width is not 10 to 400: " + width, NEW,
                list -> list.addPart(20, width, 0, 1, true));
            edges.refuses(Edges.ARGUMENT, "4: width beside others: " + width, BUSY,
                list -> list.addPart(20, width, 0, 1, false));
        }
        for (int width : new int[] {10, 11, 399, 400}) {
            edges.answers(0, "4: a width of " + width, NEW, list -> list.addPart(20, width, 0, 1, true));
            edges.answers(true, "4: a board as wide: " + width, () -> Lists.oneBoard(100, width, 0),
                list -> list.addPart(20, width, 0, 1, true) == 0 && list.fits(0, 0, 0));
            edges.answers(width == 10, "4: a board that is one less wide, if it can be: " + width,
                () -> Lists.oneBoard(100, Math.max(10, width - 1), 0),
                list -> list.addPart(20, width, 0, 1, true) == 0 && list.fits(0, 0, 0));
        }
    }

    private static void partGrade() {
        for (int grade : Edges.outside(0, 3)) {
            edges.refuses(Edges.ARGUMENT, "4: grade is not 0 to 3: " + grade, NEW,
                list -> list.addPart(20, 10, grade, 1, true));
            edges.refuses(Edges.ARGUMENT, "4: grade beside others: " + grade, BUSY,
                list -> list.addPart(20, 10, grade, 1, false));
        }
        for (int grade = 0; grade <= 3; grade++) {
            int of = grade;
            edges.answers(0, "4: a grade of " + of, NEW, list -> list.addPart(20, 10, of, 1, true));
            for (int board = 0; board <= 3; board++) {
                int its = board;
                edges.answers(its <= of, "4: a part of grade " + of + ", a board of " + its,
                    () -> Lists.oneBoard(100, 10, its),
                        list -> list.addPart(20, 10, of, 1, true) == 0 && list.fits(0, 0, 0));
            }
        }
    }

    private static void partCount() {
        for (int count : Edges.outside(1, 9)) {
            edges.refuses(Edges.ARGUMENT, "4: count is not 1 to 9: " + count, NEW,
                list -> list.addPart(20, 10, 0, count, true));
            edges.refuses(Edges.ARGUMENT, "4: count beside others: " + count, BUSY,
                list -> list.addPart(20, 10, 0, count, false));
        }
        for (int count : new int[] {1, 2, 8, 9}) {
            edges.answers(0, "4: a count of " + count, NEW, list -> list.addPart(20, 10, 0, count, true));
            edges.answers(count, "4: so many are wanted: " + count, NEW,
                list -> list.addPart(20, 10, 0, count, true) == 0 ? list.left(0) : -1);
            edges.answers(count, "4: so many are cut: " + count, () -> Lists.oneBoard(3000, 10, 0),
                list -> list.addPart(20, 10, 0, count, true) == 0 ? list.plan() : -1);
        }
    }

    private static void partsAreTwelve() {
        for (int count = 0; count < 12; count++) {
            int before = count;
            edges.answers(before, "4: numbered likewise", () -> parts(before),
                list -> list.addPart(20, 10, 0, 1, true));
        }
        Supplier<TimberList> twelve = () -> parts(12);
        edges.refuses(Edges.STATE, "4: there are 12 parts", twelve, list -> list.addPart(20, 10, 0, 1, true));
        edges.refuses(Edges.STATE, "4: there are 12 parts in the full list", FULL,
            list -> list.addPart(3000, 400, 3, 9, false));
        edges.asks(3, "4: the 12th one is there", twelve, list -> list.left(11));
        edges.asks(1, "4: each one keeps its own count", twelve, list -> list.left(0));
    }

    private static TimberList parts(int count) {
        TimberList list = boards(1);
        for (int i = 0; i < count; i++) {
            list.addPart(20 + i, 10, i % 4, 1 + i % 9, i % 2 == 0);
        }
        return list;
    }

    private static void partExceptionsInOrder() {
        edges.refuses(Edges.ARGUMENT, "4: a wrong length ahead of 12 parts", FULL,
            list -> list.addPart(3001, 10, 0, 1, true));
        edges.refuses(Edges.ARGUMENT, "4: a wrong width ahead of 12 parts", FULL,
            list -> list.addPart(20, 9, 0, 1, true));
        edges.refuses(Edges.ARGUMENT, "4: a wrong grade ahead of 12 parts", FULL,
            list -> list.addPart(20, 10, -1, 1, true));
        edges.refuses(Edges.ARGUMENT, "4: a wrong count ahead of 12 parts", FULL,
            list -> list.addPart(20, 10, 0, 10, true));
    }

    // ---- 5: setSaw

    private static void sawWidth() {
        Supplier<TimberList> unused = Lists::striped;
        for (int width : Edges.outside(0, 10)) {
            edges.refuses(Edges.ARGUMENT, "5: width is not 0 to 10: " + width, NEW, list -> list.setSaw(width));
            edges.refuses(Edges.ARGUMENT, "5: with boards and parts: " + width, unused, list -> list.setSaw(width));
        }
        for (int width = 0; width <= 10; width++) {
            int now = width;
            edges.answers(3, "5: the width before " + now, NEW, list -> list.setSaw(now));
            edges.answers(now, "5: then the width is " + now, NEW, list -> list.setSaw(now) == 3 ? list.setSaw(5) : -1);
        }
        edges.asks(3, "5: the same width again", unused, list -> list.setSaw(3));
    }

    private static void sawWhileThereIsAPiece() {
        for (int width : new int[] {0, 3, 10}) {
            edges.refuses(Edges.STATE, "5: there is a piece: " + width, BUSY, list -> list.setSaw(width));
            edges.refuses(Edges.STATE, "5: there are planned ones: " + width, Lists::fullAndPlanned,
                list -> list.setSaw(width));
        }
        for (int width : Edges.outside(0, 10)) {
            edges.refuses(Edges.ARGUMENT, "5: a wrong width ahead of a piece: " + width, BUSY,
                list -> list.setSaw(width));
        }
        edges.answers("throws.IllegalStateException", "5: all but the first one were taken back", BUSY, list -> {
            takeBack(list, 3);
            return list.setSaw(0);
        });
        edges.answers(3, "5: all were taken back", BUSY, list -> {
            takeBack(list, 4);
            return list.setSaw(0);
        });
    }

    private static void takeBack(TimberList list, int times) {
        for (int i = 0; i < times; i++) {
            list.undo();
        }
    }

    // ---- 6: setJoint

    private static void jointLength() {
        for (int length : Edges.outside(0, 50)) {
            edges.refuses(Edges.ARGUMENT, "6: length is not 0 to 50: " + length, NEW, list -> list.setJoint(length));
            edges.refuses(Edges.ARGUMENT, "6: with pieces: " + length, BUSY, list -> list.setJoint(length));
        }
        for (int length : new int[] {0, 1, 10, 49, 50}) {
            edges.answers(10, "6: the length before " + length, NEW, list -> list.setJoint(length));
            edges.answers(10, "6: pieces do not matter: " + length, BUSY, list -> list.setJoint(length));
            edges.answers(length, "6: then the length is " + length, BUSY,
                list -> list.setJoint(length) == 10 ? list.setJoint(7) : -1);
        }
    }

    // ---- 7: grade

    private static void gradeOfNoBoardOrPlace() {
        for (int board : Edges.outside(2)) {
            edges.refuses(Edges.INDEX, "7: there is no such board: " + board, BUSY, list -> list.grade(board, 0));
        }
        for (int place : Edges.outside(300)) {
            edges.refuses(Edges.INDEX, "7: there is no such place: " + place, BUSY, list -> list.grade(1, place));
        }
        for (int place : Edges.outside(3000)) {
            edges.refuses(Edges.INDEX, "7: none on the longest board: " + place, () -> Lists.oneBoard(3000, 10, 0),
                list -> list.grade(0, place));
        }
        edges.asks(1, "7: the first place", BUSY, list -> list.grade(1, 0));
        edges.asks(0, "7: the last place", BUSY, list -> list.grade(1, 299));
        edges.asks(1, "7: the longer board's place", BUSY, list -> list.grade(0, 999));
    }

    private static void gradeIsTheGreatest() {
        for (int of = 0; of <= 3; of++) {
            for (int first = 1; first <= 3; first++) {
                for (int second = 1; second <= 3; second++) {
                    gradeOfThree(of, first, second);
                }
            }
        }
    }

    /** Defects from 10 ahead of 30 and from 20 ahead of 40: at their edges the grade has to change, and nowhere else. */
    private static void gradeOfThree(int of, int first, int second) {
        Supplier<TimberList> made = () -> {
            TimberList list = Lists.oneBoard(100, 10, of);
            list.addDefect(0, 20, 40, second);
            list.addDefect(0, 10, 30, first);
            return list;
        };
        String what = "7: the greatest one of " + of + " " + first + " " + second + " at ";
        int[] atFirst = {10, 19};
        int[] atBoth = {20, 29};
        int[] atSecond = {30, 39};
        for (int i = 0; i < 2; i++) {
            int end = i;
            edges.asks(of, what + "neither", made, list -> list.grade(0, end == 0 ? 9 : 40));
            edges.asks(Math.max(of, first), what + atFirst[end], made, list -> list.grade(0, atFirst[end]));
            edges.asks(Math.max(of, Math.max(first, second)), what + atBoth[end], made,
                list -> list.grade(0, atBoth[end]));
            edges.asks(Math.max(of, second), what + atSecond[end], made, list -> list.grade(0, atSecond[end]));
        }
    }

    // ---- 8: stretches

    private static void stretchesOfNoBoard() {
        for (int board : Edges.outside(2)) {
            edges.refuses(Edges.INDEX, "8: there is no such board: " + board, BUSY, list -> list.stretches(board, 0));
            edges.refuses(Edges.INDEX, "8: no board ahead of no grade: " + board, BUSY,
                list -> list.stretches(board, 4));
        }
    }

    private static void stretchesForNoGrade() {
        for (int grade : Edges.outside(0, 3)) {
            edges.refuses(Edges.ARGUMENT, "8: grade is not 0 to 3: " + grade, BUSY, list -> list.stretches(0, grade));
        }
        int[] due = {0, 2, 2, 1};
        for (int grade = 0; grade <= 3; grade++) {
            int of = grade;
            edges.asks(due[of], "8: a grade of " + of, BUSY, list -> list.stretches(0, of));
        }
    }

    private static void stretchesAreTheLongestRows() {
        int[][][] cases = {
            // The number that is due, then the defects.
            {{1}},
            {{0}, {0, 100}},
            {{1}, {0, 1}},
            {{1}, {99, 100}},
            {{1}, {0, 99}},
            {{1}, {1, 100}},
            {{2}, {1, 99}},
            {{2}, {50, 51}},
            {{1}, {0, 1}, {99, 100}},
            {{0}, {0, 50}, {50, 100}},
            {{0}, {50, 100}, {0, 50}},
            {{1}, {0, 50}, {51, 100}},
            {{2}, {20, 40}, {40, 60}},
            {{2}, {20, 60}, {30, 40}},
            {{2}, {30, 40}, {20, 60}},
            {{2}, {20, 40}, {30, 60}},
            {{2}, {20, 40}, {20, 60}},
            {{2}, {20, 60}, {20, 40}},
            {{3}, {60, 61}, {20, 21}},
            {{2}, {20, 60}, {20, 60}}
        };
        for (int[][] c : cases) {
            Supplier<TimberList> made = () -> withDefects(c);
            String what = "8: of defects " + java.util.Arrays.deepToString(c);
            edges.asks(c[0][0], what, made, list -> list.stretches(0, 1));
            edges.asks(c[0][0], what + " for the board's own grade", made, list -> list.stretches(0, 0));
            edges.asks(1, what + " for their grade", made, list -> list.stretches(0, 2));
        }
    }

    private static TimberList withDefects(int[][] defectsBehindFirst) {
        TimberList list = Lists.oneBoard(100, 10, 0);
        for (int i = 1; i < defectsBehindFirst.length; i++) {
            list.addDefect(0, defectsBehindFirst[i][0], defectsBehindFirst[i][1], 2);
        }
        return list;
    }

    /** 24 defects part a board into 25 stretches; pieces do not matter for them. */
    private static void stretchesOfManyDefects() {
        Supplier<TimberList> many = () -> {
            TimberList list = Lists.oneBoard(3000, 10, 0);
            for (int i = 24; i >= 1; i--) {
                list.addDefect(0, 100 * i, 100 * i + 50, 3);
            }
            list.addPart(50, 10, 0, 9, false);
            list.plan();
            return list;
        };
        edges.asks(25, "8: 25 of them", many, list -> list.stretches(0, 2));
        edges.asks(1, "8: one for the defects' grade", many, list -> list.stretches(0, 3));
        edges.asks(2450, "9: the first place of the last one", many, list -> list.stretch(0, 0, 24, false));
        edges.asks(3000, "9: the end of the last one", many, list -> list.stretch(0, 0, 24, true));
        edges.asks(0, "9: the first place of the first one", many, list -> list.stretch(0, 0, 0, false));
        edges.asks(100, "9: the end of the first one", many, list -> list.stretch(0, 0, 0, true));
        edges.asks(1250, "9: in ascending order", many, list -> list.stretch(0, 1, 12, false));
        edges.refuses(Edges.ARGUMENT, "9: there is no 26th one", many, list -> list.stretch(0, 0, 25, false));
    }

    // ---- 9: stretch

    private static void stretchOfNoBoard() {
        for (int board : Edges.outside(2)) {
            edges.refuses(Edges.INDEX, "9: there is no such board: " + board, BUSY,
                list -> list.stretch(board, 1, 0, true));
            edges.refuses(Edges.INDEX, "9: no board ahead of no grade: " + board, BUSY,
                list -> list.stretch(board, 4, 0, true));
            edges.refuses(Edges.INDEX, "9: no board ahead of no stretch: " + board, BUSY,
                list -> list.stretch(board, 1, 9, false));
        }
    }

    private static void stretchForNoGrade() {
        for (int grade : Edges.outside(0, 3)) {
            edges.refuses(Edges.ARGUMENT, "9: grade is not 0 to 3: " + grade, BUSY,
                list -> list.stretch(0, grade, 0, true));
            edges.refuses(Edges.ARGUMENT, "9: nor with no stretch: " + grade, BUSY,
                list -> list.stretch(0, grade, -1, false));
        }
        edges.asks(0, "9: grade 3", BUSY, list -> list.stretch(0, 3, 0, false));
        edges.asks(1000, "9: its end", BUSY, list -> list.stretch(0, 3, 0, true));
        edges.asks(10, "9: grade 0", BUSY, list -> list.stretch(1, 0, 0, false));
        edges.asks(300, "9: its end", BUSY, list -> list.stretch(1, 0, 0, true));
    }

    private static void noSuchStretch() {
        for (int stretch : Edges.outside(2)) {
            edges.refuses(Edges.ARGUMENT, "9: there is no such stretch: " + stretch, BUSY,
                list -> list.stretch(0, 1, stretch, true));
            edges.refuses(Edges.ARGUMENT, "9: nor its start: " + stretch, BUSY,
                list -> list.stretch(0, 1, stretch, false));
        }
        for (int stretch : Edges.outside(1)) {
            edges.refuses(Edges.ARGUMENT, "9: one alone is there: " + stretch, BUSY,
                list -> list.stretch(0, 3, stretch, true));
        }
        for (int stretch : new int[] {0, 1, -1, Edges.LEAST, Edges.GREATEST}) {
            edges.refuses(Edges.ARGUMENT, "9: there is none at all: " + stretch, BUSY,
                list -> list.stretch(0, 0, stretch, false));
        }
        edges.asks(540, "9: the last one that there is", BUSY, list -> list.stretch(0, 1, 1, false));
        edges.asks(1000, "9: its end", BUSY, list -> list.stretch(0, 1, 1, true));
    }
}
