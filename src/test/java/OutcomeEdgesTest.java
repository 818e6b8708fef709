import java.math.BigInteger;
import java.util.ArrayList;
import java.util.List;
import java.util.function.Supplier;

/** Promises 19 to 23: for each sentence that names a boundary case a test of its own, named by the sentence. */
public final class OutcomeEdgesTest {
    private static final Edges edges = new Edges();
    private static final Supplier<TimberList> NEW = TimberList::new;
    private static final Supplier<TimberList> BUSY = Lists::busy;
    private static final Supplier<TimberList> FULL = Lists::full;
    private static final Supplier<TimberList> PLANNED = Lists::fullAndPlanned;

    public static void main(String[] args) {
        noSuchBoard();
        cutsAtTheEnds();
        cutsBetweenTwoPieces();
        longestRoomOrNone();
        longestRoomBesideTheSaw();
        bestUseArguments();
        bestUseOfARowJustLongEnough();
        bestUseOfWhatIsLeft();
        bestUseOfWidthAndGrade();
        bestUseWhateverTheBoard();
        bestUseOfTheGreatest();
        bestUseIsNotTheLongestFirst();
        usedOfNone();
        usedOfBoardsThatHavePieces();
        digestStart();
        digestInItsOrder();
        digestWrapsAround();
        edges.end("OutcomeEdgesTest");
    }

    // ---- Throws IndexOutOfBoundsException if there is no such board

    private static void noSuchBoard() {
        for (int board : Edges.outside(2)) {
            edges.refuses(Edges.INDEX, "19: there is no such board: " + board, BUSY, list -> list.cuts(board));
            edges.refuses(Edges.INDEX, "20: there is no such board: " + board, BUSY, list -> list.longestRoom(board));
            edges.refuses(Edges.INDEX, "21: there is no such board: " + board, BUSY,
                list -> list.bestUse(board, 0, 100));
            edges.refuses(Edges.INDEX, "21: no board ahead of no grade: " + board, BUSY,
                list -> list.bestUse(board, 4, 100));
            edges.refuses(Edges.INDEX, "21: no board ahead of no length: " + board, BUSY,
                list -> list.bestUse(board, 0, -1));
        }
        for (int board : Edges.outside(10)) {
            edges.refuses(Edges.INDEX, "19: none in the full list: " + board, PLANNED, list -> list.cuts(board));
            edges.refuses(Edges.INDEX, "20: none in the full list: " + board, PLANNED, list -> list.longestRoom(board));
            edges.refuses(Edges.INDEX, "21: none in the full list: " + board, PLANNED,
                list -> list.bestUse(board, 0, 100));
        }
        edges.asks(0, "19: the last one of ten", FULL, list -> list.cuts(9));
        edges.asks(390, "20: the last one of ten", FULL, list -> list.longestRoom(9));
    }

    // ---- 19: cuts

    /** A board of 200, a saw of this width, and pieces of 20 at these places. */
    private static Supplier<TimberList> piecesAt(int saw, int... places) {
        return () -> {
            TimberList list = Lists.oneBoard(200, 10, 0);
            list.addPart(20, 10, 0, 9, false);
            list.setSaw(saw);
            for (int place : places) {
                list.cut(0, 0, place);
            }
            return list;
        };
    }

    private static void cutsAtTheEnds() {
        for (int saw : new int[] {0, 3, 10}) {
            String what = "19: a saw of " + saw + ": ";
            edges.asks(0, what + "no piece", piecesAt(saw), list -> list.cuts(0));
            edges.asks(1, what + "a piece at the board's beginning", piecesAt(saw, 0), list -> list.cuts(0));
            edges.asks(1, what + "a piece at the board's end", piecesAt(saw, 180), list -> list.cuts(0));
            edges.asks(2, what + "one place behind the beginning", piecesAt(saw, 1), list -> list.cuts(0));
            edges.asks(2, what + "one place ahead of the end", piecesAt(saw, 179), list -> list.cuts(0));
            edges.asks(2, what + "the saw behind the beginning", piecesAt(saw, 10), list -> list.cuts(0));
            edges.asks(2, what + "a piece at each end", piecesAt(saw, 0, 180), list -> list.cuts(0));
            edges.asks(4, what + "a piece one place from each end", piecesAt(saw, 1, 179), list -> list.cuts(0));
        }
        Supplier<TimberList> whole = () -> {
            TimberList list = Lists.oneBoard(3000, 10, 0);
            list.addPart(3000, 10, 0, 1, false);
            list.cut(0, 0, 0);
            return list;
        };
        edges.asks(0, "19: a piece that begins at its beginning and ends at its end", whole, list -> list.cuts(0));
    }

    private static void cutsBetweenTwoPieces() {
        for (int saw = 0; saw <= 10; saw++) {
            String what = "19: a saw of " + saw + ": ";
            edges.asks(3, what + "just its width between them", piecesAt(saw, 50, 70 + saw), list -> list.cuts(0));
            edges.asks(3, what + "the second one cut first", piecesAt(saw, 70 + saw, 50), list -> list.cuts(0));
            edges.asks(4, what + "one place more between them", piecesAt(saw, 50, 71 + saw), list -> list.cuts(0));
            edges.asks(2, what + "at the beginning, just its width between", piecesAt(saw, 0, 20 + saw),
                list -> list.cuts(0));
            edges.asks(2, what + "at the end, just its width between", piecesAt(saw, 160 - saw, 180),
                list -> list.cuts(0));
            edges.asks(4, what + "three of them", piecesAt(saw, 50, 70 + saw, 90 + 2 * saw), list -> list.cuts(0));
            edges.answers(3, what + "the one between was taken back", piecesAt(saw, 0, 40 + 2 * saw, 20 + saw), list -> {
                list.undo();
                return list.cuts(0);
            });
        }
        edges.asks(3, "19: pieces of a joining", () -> {
            TimberList list = Lists.oneBoard(200, 10, 0);
            list.addPart(100, 10, 0, 1, true);
            list.join(0, 0, 10, 50, 0, 63);
            return list;
        }, list -> list.cuts(0));
        edges.asks(0, "19: nothing is cut any more", () -> {
            TimberList list = piecesAt(3, 50).get();
            list.undo();
            return list;
        }, list -> list.cuts(0));
    }

    // ---- 20: longestRoom

    private static void longestRoomOrNone() {
        for (int length : new int[] {100, 101, 2999, 3000}) {
            edges.asks(length, "20: the whole board", () -> Lists.oneBoard(length, 10, 3), list -> list.longestRoom(0));
            edges.asks(0, "20: 0 if there is none: one piece of all the board", () -> {
                TimberList list = Lists.oneBoard(length, 10, 3);
                list.addPart(length, 10, 3, 1, false);
                list.cut(0, 0, 0);
                return list;
            }, list -> list.longestRoom(0));
        }
        // A piece by one place shorter than the board: without a width of the saw, one place is a room.
        for (int saw : new int[] {0, 1, 2, 10}) {
            Supplier<TimberList> made = () -> {
                TimberList list = Lists.oneBoard(100, 10, 0);
                list.addPart(99, 10, 0, 1, false);
                list.addPart(98, 10, 0, 1, false);
                list.addPart(20, 10, 0, 5, false);
                list.setSaw(saw);
                return list;
            };
            String what = "20: a saw of " + saw + ": ";
            edges.answers(saw == 0 ? 1 : 0, what + "one place behind", made,
                list -> list.cut(0, 0, 0) == 0 ? list.longestRoom(0) : -1);
            edges.answers(saw == 0 ? 1 : 0, what + "one place ahead", made,
                list -> list.cut(0, 0, 1) == 0 ? list.longestRoom(0) : -1);
            edges.answers(saw == 0 ? 1 : 0, what + "one place on both sides", made,
                list -> list.cut(1, 0, 1) == 0 ? list.longestRoom(0) : -1);
            edges.answers(Math.max(0, 2 - saw), what + "two places behind", made,
                list -> list.cut(1, 0, 0) == 0 ? list.longestRoom(0) : -1);
        }
        edges.asks(0, "20: 0 if there is none: pieces of all the board", () -> {
            TimberList list = Lists.oneBoard(100, 10, 0);
            list.addPart(20, 10, 0, 5, false);
            list.setSaw(0);
            list.plan();
            return list;
        }, list -> list.longestRoom(0));
    }

    private static void longestRoomBesideTheSaw() {
        for (int saw = 0; saw <= 10; saw++) {
            String what = "20: a saw of " + saw + ": ";
            edges.asks(150 - saw, what + "behind a piece", piecesAt(saw, 30), list -> list.longestRoom(0));
            edges.asks(150 - saw, what + "ahead of a piece", piecesAt(saw, 150), list -> list.longestRoom(0));
            edges.asks(160 - 2 * saw, what + "between two pieces", piecesAt(saw, 0, 180), list -> list.longestRoom(0));
            edges.asks(Math.max(0, 90 - saw), what + "the first one of two that are as long", piecesAt(saw, 90),
                list -> list.longestRoom(0));
            edges.asks(91 - saw, what + "the second one by one place", piecesAt(saw, 89), list -> list.longestRoom(0));
            edges.asks(91 - saw, what + "the first one by one place", piecesAt(saw, 91), list -> list.longestRoom(0));
        }
        edges.asks(200, "20: a room goes on over defects", () -> {
            TimberList list = piecesAt(3).get();
            list.addDefect(0, 0, 200, 3);
            return list;
        }, list -> list.longestRoom(0));
    }

    // ---- 21: bestUse

    private static void bestUseArguments() {
        for (int grade : Edges.outside(0, 3)) {
            edges.refuses(Edges.ARGUMENT, "21: grade is not 0 to 3: " + grade, BUSY,
                list -> list.bestUse(0, grade, 100));
        }
        for (int length : Edges.outside(0, 3000)) {
            edges.refuses(Edges.ARGUMENT, "21: length is not 0 to 3000: " + length, BUSY,
                list -> list.bestUse(0, 0, length));
            edges.refuses(Edges.ARGUMENT, "21: nor with no grade: " + length, BUSY,
                list -> list.bestUse(0, -1, length));
        }
        edges.refuses(Edges.INDEX, "21: no board in a new list", NEW, list -> list.bestUse(0, 0, 0));
        edges.asks(0, "21: a row of 0", BUSY, list -> list.bestUse(0, 0, 0));
        edges.asks(0, "21: a row of 0, grade 3", BUSY, list -> list.bestUse(0, 3, 0));
        edges.asks(850, "21: a row of 3000", BUSY, list -> list.bestUse(0, 0, 3000));
        edges.asks(0, "21: a row of 3000, grade 3", BUSY, list -> list.bestUse(0, 3, 3000));
        edges.asks(0, "21: no parts", () -> Lists.oneBoard(100, 10, 0), list -> list.bestUse(0, 0, 3000));
    }

    /** One part of this length and count, a board of 100, a saw of this width. */
    private static Supplier<TimberList> oneUse(int saw, int length, int count) {
        return () -> {
            TimberList list = Lists.oneBoard(100, 10, 0);
            list.addPart(length, 10, 0, count, false);
            list.setSaw(saw);
            return list;
        };
    }

    private static void bestUseOfARowJustLongEnough() {
        for (int saw = 0; saw <= 10; saw++) {
            for (int number = 1; number <= 9; number++) {
                int just = 20 * number + saw * (number - 1);
                int due = 20 * number;
                String what = "21: the saw's width of " + saw + " between each two of " + number + ": ";
                edges.asks(due, what + "just long enough", oneUse(saw, 20, 9), list -> list.bestUse(0, 0, just));
                edges.asks(due - 20, what + "one place too short", oneUse(saw, 20, 9),
                    list -> list.bestUse(0, 0, just - 1));
            }
        }
        edges.asks(0, "21: a row of 19", oneUse(3, 20, 1), list -> list.bestUse(0, 0, 19));
        edges.asks(20, "21: a row of 20", oneUse(10, 20, 1), list -> list.bestUse(0, 0, 20));
        edges.asks(3000, "21: a part of 3000", oneUse(10, 3000, 9), list -> list.bestUse(0, 0, 3000));
        edges.asks(0, "21: a part of 3000, a row of 2999", oneUse(10, 3000, 9), list -> list.bestUse(0, 0, 2999));
        edges.asks(1496, "21: parts of 1495 and 1496 and a saw of 10", () -> {
            TimberList list = oneUse(10, 1495, 1).get();
            list.addPart(1496, 10, 0, 1, false);
            return list;
        }, list -> list.bestUse(0, 0, 3000));
        edges.asks(2990, "21: two parts of 1495 and a saw of 10", oneUse(10, 1495, 9),
            list -> list.bestUse(0, 0, 3000));
        edges.asks(1495, "21: one place less", oneUse(10, 1495, 9), list -> list.bestUse(0, 0, 2999));
    }

    private static void bestUseOfWhatIsLeft() {
        for (int count = 1; count <= 9; count++) {
            int of = count;
            edges.asks(20 * of, "21: at most as many as are left: " + of, oneUse(3, 20, of),
                list -> list.bestUse(0, 0, 3000));
            edges.answers(20 * of - 20, "21: one was cut of " + of, oneUse(3, 20, of), list -> {
                list.cut(0, 0, 0);
                return list.bestUse(0, 0, 3000);
            });
            edges.answers(20 * of, "21: it was taken back: " + of, oneUse(3, 20, of), list -> {
                list.cut(0, 0, 0);
                list.undo();
                return list.bestUse(0, 0, 3000);
            });
        }
        edges.answers(0, "21: none is left", oneUse(0, 20, 5),
            list -> list.plan() == 5 ? list.bestUse(0, 0, 3000) : -1);
        edges.answers(100, "21: one was joined", () -> {
            TimberList list = Lists.oneBoard(200, 10, 0);
            list.addPart(100, 10, 0, 2, true);
            return list;
        }, list -> list.join(0, 0, 0, 55, 0, 100) == 1 ? list.bestUse(0, 0, 3000) : -1);
    }

    private static void bestUseOfWidthAndGrade() {
        for (int width : new int[] {10, 11, 200, 399, 400}) {
            for (int more = -1; more <= 1; more++) {
                int partWidth = width + more;
                if (partWidth < 10 || partWidth > 400) {
                    continue;
                }
                edges.asks(more <= 0 ? 50 : 0, "21: not wider than a board: " + partWidth + " of " + width, () -> {
                    TimberList list = Lists.oneBoard(100, 10, 0);
                    list.addBoard(100, width, 0);
                    list.addBoard(100, 400, 0);
                    list.addPart(50, partWidth, 0, 1, false);
                    return list;
                }, list -> list.bestUse(1, 0, 100));
            }
        }
        for (int part = 0; part <= 3; part++) {
            for (int asked = 0; asked <= 3; asked++) {
                int of = part;
                int grade = asked;
                edges.asks(of >= grade ? 50 : 0, "21: whose grade is not less than a grade: " + of + " " + grade, () -> {
                    TimberList list = Lists.oneBoard(100, 10, 0);
                    list.addPart(50, 10, of, 1, false);
                    return list;
                }, list -> list.bestUse(0, grade, 100));
            }
        }
    }

    /** The row is one without defects and pieces: those of the board, its length and its own grade do not matter. */
    private static void bestUseWhateverTheBoard() {
        Supplier<TimberList> made = () -> {
            TimberList list = Lists.oneBoard(100, 10, 3);
            list.addDefect(0, 0, 100, 3);
            list.addPart(90, 10, 3, 2, false);
            list.addPart(500, 10, 0, 1, false);
            list.cut(0, 0, 5);
            return list;
        };
        edges.asks(590, "21: a row that is longer than the board", made, list -> list.bestUse(0, 0, 593));
        edges.asks(500, "21: one place less", made, list -> list.bestUse(0, 0, 592));
        edges.asks(90, "21: a row as long as the board", made, list -> list.bestUse(0, 0, 100));
        edges.asks(90, "21: for grade 3", made, list -> list.bestUse(0, 3, 3000));
    }

    /** 54 pieces of 20 and 54 of 21 are left. */
    private static Supplier<TimberList> mostPieces(int saw) {
        return () -> {
            TimberList list = Lists.oneBoard(100, 10, 0);
            for (int i = 0; i < 12; i++) {
                list.addPart(20 + i % 2, 10, 0, 9, false);
            }
            list.setSaw(saw);
            return list;
        };
    }

    private static void bestUseOfTheGreatest() {
        edges.asks(2214, "21: 108 pieces", mostPieces(0), list -> list.bestUse(0, 0, 3000));
        edges.asks(2214, "21: 108 pieces, a row just long enough", mostPieces(0), list -> list.bestUse(0, 0, 2214));
        edges.asks(2194, "21: 108 pieces, a row one place too short", mostPieces(0), list -> list.bestUse(0, 0, 2213));
        // 99 pieces would take at least 54 * 20 + 45 * 21 + 98 * 10 = 3005; the longest 98 are 54 of 21 and 44 of 20.
        edges.asks(2014, "21: 98 pieces, the widest saw", mostPieces(10), list -> list.bestUse(0, 0, 3000));
    }

    private static void bestUseIsNotTheLongestFirst() {
        edges.asks(120, "21: two of 60 ahead of one of 100", () -> {
            TimberList list = Lists.oneBoard(100, 10, 0);
            list.addPart(100, 10, 0, 1, false);
            list.addPart(60, 10, 0, 2, false);
            return list;
        }, list -> list.bestUse(0, 0, 123));
        edges.asks(100, "21: one of 100 when the saw has no room", () -> {
            TimberList list = Lists.oneBoard(100, 10, 0);
            list.addPart(100, 10, 0, 1, false);
            list.addPart(60, 10, 0, 2, false);
            return list;
        }, list -> list.bestUse(0, 0, 122));
    }

    // ---- 22: used

    private static void usedOfNone() {
        edges.asks(0.0, "22: 0 if there are none, in a new list", NEW, list -> list.used());
        edges.asks(0.0, "22: 0 if there are none, in the full list", FULL, list -> list.used());
        edges.asks(0.0, "22: 0 if all are taken back", () -> {
            TimberList list = Lists.oneBoard(100, 10, 0);
            list.addPart(100, 10, 0, 1, false);
            list.cut(0, 0, 0);
            list.undo();
            return list;
        }, list -> list.used());
        edges.asks(0.0, "22: 0 after a refused cut", () -> {
            TimberList list = Lists.oneBoard(100, 10, 0);
            list.addPart(100, 10, 0, 1, false);
            Story.answerTo(() -> list.cut(0, 0, 1));
            return list;
        }, list -> list.used());
    }

    private static void usedOfBoardsThatHavePieces() {
        edges.asks((50 * 60 + 60 * 60 + 40 * 10 + 100 * 60 + 40 * 10) / (1000.0 * 100 + 300 * 60), "22: two boards", BUSY,
            list -> list.used());
        edges.answers((50 * 60 + 60 * 60 + 40 * 10) / (1000.0 * 100), "22: a board without pieces is none of them", BUSY, list -> {
            list.undo();
            list.undo();
            return list.used();
        });
        edges.asks(1.0, "22: all of the greatest boards", () -> {
            TimberList list = new TimberList();
            for (int i = 0; i < 10; i++) {
                list.addBoard(3000, 400, 0);
            }
            list.addPart(3000, 400, 0, 9, false);
            list.addPart(3000, 400, 0, 1, false);
            list.plan();
            return list;
        }, list -> list.used());
        edges.asks(20.0 * 10.0 / (3000.0 * 400.0), "22: the least part of the greatest board", () -> {
            TimberList list = Lists.oneBoard(3000, 400, 0);
            list.addPart(20, 10, 0, 1, false);
            list.plan();
            return list;
        }, list -> list.used());
        edges.asks(150.0 * 10.0 / (3000.0 * 10.0), "22: the length of each piece of a joining, the joint's too", () -> {
            TimberList list = Lists.oneBoard(3000, 10, 0);
            list.addPart(100, 10, 0, 1, true);
            list.setJoint(50);
            list.join(0, 0, 0, 50, 0, 100);
            return list;
        }, list -> list.used());
    }

    // ---- 23: digest

    private static void digestStart() {
        edges.asks(Lists.numbers(3, 10, 0, 0, 0), "23: a new list", NEW, list -> list.digest());
        for (int saw : new int[] {0, 10}) {
            for (int joint : new int[] {0, 50}) {
                edges.answers(Lists.numbers(saw, joint, 0, 0, 0), "23: the width of the saw, the length that a joint takes", NEW, list -> {
                    list.setSaw(saw);
                    list.setJoint(joint);
                    return list.digest();
                });
            }
        }
        edges.asks(Lists.numbers(3, 10, 0, 0, 1, 0), "23: a board alone", () -> Lists.oneBoard(100, 10, 3),
            list -> list.digest());
        edges.answers(Lists.numbers(3, 10, 0, 1, 9, 0), "23: a part alone", NEW,
            list -> list.addPart(20, 10, 0, 9, true) == 0 ? list.digest() : -1);
        edges.answers(Lists.numbers(3, 10, 1, 0, 1, 0), "23: a defect", () -> Lists.oneBoard(100, 10, 3),
            list -> list.addDefect(0, 0, 1, 1) == 1 ? list.digest() : -1);
    }

    private static void digestInItsOrder() {
        edges.asks(Lists.numbers(3, 10, 3, 4, 3, 0, 2, 1, 2, 3, 0, 200, 250, 1, 1, 520, 560, 0, 0, 600, 660, 1,
            2, 0, 20, 120, 0, 1, 123, 163, 0), "23: the numbers of the busy list", BUSY, list -> list.digest());
        edges.asks(Lists.numbers(3, 10, 24, 12, 1, 2, 1, 2, 1, 2, 1, 2, 1, 2, 1, 2, 10, 0, 0, 0, 0, 0, 0, 0, 0, 0, 0),
            "23: the numbers of the full list", FULL, list -> list.digest());
    }

    private static void digestWrapsAround() {
        digestOf("the busy list", BUSY, 3, 4, 2);
        digestOf("the full list", FULL, 24, 12, 10);
        digestOf("the planned list", PLANNED, 24, 12, 10);
    }

    /** Of the sum that has no bound and some hundred bits, the lowest 64 are due. */
    private static void digestOf(String name, Supplier<TimberList> made, int defects, int parts, int boards) {
        BigInteger sum = BigInteger.valueOf(269);
        for (int x : numbersOf(made.get(), defects, parts, boards)) {
            sum = sum.multiply(BigInteger.valueOf(31)).add(BigInteger.valueOf(x));
        }
        boolean isBeyond = sum.bitLength() > 64;
        edges.asks(true, "23: the sum is beyond 64 bits: " + name, made, list -> isBeyond);
        edges.asks(sum.longValue(), "23: which wraps around as a 64-bit integer: " + name, made, list -> list.digest());
    }

    private static List<Integer> numbersOf(TimberList list, int defects, int parts, int boards) {
        List<Integer> told = new ArrayList<>(List.of(3, 10, defects, parts));
        for (int part = 0; part < parts; part++) {
            told.add(list.left(part));
        }
        told.add(boards);
        for (int board = 0; board < boards; board++) {
            told.add(list.pieces(board));
            for (int piece = 0; piece < list.pieces(board); piece++) {
                for (int what = 0; what <= 3; what++) {
                    told.add(list.piece(board, piece, what));
                }
            }
        }
        return told;
    }
}
