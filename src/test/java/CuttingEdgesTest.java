import java.util.function.Supplier;

/** Promises 10 to 18: for each sentence that names a boundary case a test of its own, named by the sentence. */
public final class CuttingEdgesTest {
    private static final Edges edges = new Edges();
    private static final Supplier<TimberList> BUSY = Lists::busy;
    private static final Supplier<TimberList> FULL = Lists::full;
    private static final Supplier<TimberList> PLANNED = Lists::fullAndPlanned;
    private static final int[] FAR = {-1, -2, -40, 3000, Edges.LEAST, Edges.LEAST + 1, Edges.LEAST + 40,
        Edges.GREATEST, Edges.GREATEST - 1, Edges.GREATEST - 39, Edges.GREATEST - 40};

    public static void main(String[] args) {
        noSuchPartOrBoard();
        withinTheBoard();
        notWiderThanTheBoard();
        gradeAtEachPlace();
        widthOfTheSawAway();
        leftDoesNotMatterToFits();
        earliestPlace();
        noEarliestPlace();
        cutDownToNoneLeft();
        cutNotPossible();
        cutExceptionsInOrder();
        joinLengths();
        joinGreatLengths();
        joinNotLeftOrNotToBeJoined();
        joinEachPieceNotPossible();
        joinBesideEachOther();
        joinExceptionsInOrder();
        undoOfNothing();
        undoTakesTheLatestBack();
        planNothing();
        planTheLongest();
        planTheSmallestGrade();
        planTheSmallestNumber();
        planTheLeastLengthLeft();
        planTheFreeRoom();
        planTheEarliestPlaceAlone();
        planCutsAll();
        leftOfNoPart();
        piecesOfNoBoard();
        noSuchPieceOrWhat();
        piecesInAscendingOrder();
        fiveHundredAndTwelveCalls();
        edges.end("CuttingEdgesTest");
    }

    // ---- Throws IndexOutOfBoundsException if there is no such part or board

    private static void noSuchPartOrBoard() {
        for (int part : Edges.outside(4)) {
            edges.refuses(Edges.INDEX, "10: there is no such part: " + part, BUSY, list -> list.fits(part, 0, 0));
            edges.refuses(Edges.INDEX, "11: there is no such part: " + part, BUSY, list -> list.earliest(part, 0));
            edges.refuses(Edges.INDEX, "12: there is no such part: " + part, BUSY, list -> list.cut(part, 0, 0));
            edges.refuses(Edges.INDEX, "13: there is no such part: " + part, BUSY,
                list -> list.join(part, 0, 0, 55, 0, 100));
            edges.refuses(Edges.INDEX, "16: there is no such part: " + part, BUSY, list -> list.left(part));
        }
        for (int board : Edges.outside(2)) {
            edges.refuses(Edges.INDEX, "10: there is no such board: " + board, BUSY, list -> list.fits(0, board, 0));
            edges.refuses(Edges.INDEX, "11: there is no such board: " + board, BUSY, list -> list.earliest(0, board));
            edges.refuses(Edges.INDEX, "12: there is no such board: " + board, BUSY, list -> list.cut(0, board, 0));
            edges.refuses(Edges.INDEX, "13: there is no such board: " + board, BUSY,
                list -> list.join(0, board, 0, 55, 0, 100));
            edges.refuses(Edges.INDEX, "13: no such second board: " + board, BUSY,
                list -> list.join(0, 0, 0, 55, board, 100));
        }
        for (int part : Edges.outside(12)) {
            edges.refuses(Edges.INDEX, "12: none in the full list: " + part, FULL, list -> list.cut(part, 0, 0));
            edges.refuses(Edges.INDEX, "16: none in the full list: " + part, PLANNED, list -> list.left(part));
        }
        for (int board : Edges.outside(10)) {
            edges.refuses(Edges.INDEX, "12: no board in the full list: " + board, FULL, list -> list.cut(0, board, 0));
        }
        edges.refuses(Edges.INDEX, "10: a board, and no part", () -> Lists.oneBoard(100, 10, 0),
            list -> list.fits(0, 0, 0));
        edges.refuses(Edges.INDEX, "10: a part, and no board", CuttingEdgesTest::onePart, list -> list.fits(0, 0, 0));
        edges.refuses(Edges.INDEX, "11: a part, and no board", CuttingEdgesTest::onePart, list -> list.earliest(0, 0));
        edges.refuses(Edges.INDEX, "12: a part, and no board", CuttingEdgesTest::onePart, list -> list.cut(0, 0, 0));
        edges.refuses(Edges.INDEX, "13: a part, and no board", CuttingEdgesTest::onePart,
            list -> list.join(0, 0, 0, 55, 0, 100));
        edges.asks(0, "15: a part, and no board", CuttingEdgesTest::onePart, list -> list.plan());
    }

    private static TimberList onePart() {
        TimberList list = new TimberList();
        list.addPart(100, 10, 0, 9, true);
        return list;
    }

    /** A board of grade 0 with a width of 10, and a part of this length that may be joined. */
    private static TimberList boardAndPart(int boardLength, int partLength, int count) {
        TimberList list = Lists.oneBoard(boardLength, 10, 0);
        list.addPart(partLength, 10, 0, count, true);
        return list;
    }

    // ---- A piece is possible if it is within the board

    private static void withinTheBoard() {
        int[][] sizes = {{100, 20}, {100, 99}, {100, 100}, {3000, 20}, {3000, 3000}, {500, 499}};
        for (int[] size : sizes) {
            Supplier<TimberList> made = () -> boardAndPart(size[0], size[1], 1);
            int last = size[0] - size[1];
            String what = "10: " + size[1] + " within " + size[0] + " at ";
            edges.asks(true, what + "its first place", made, list -> list.fits(0, 0, 0));
            edges.asks(true, what + "its end", made, list -> list.fits(0, 0, last));
            edges.answers(0, "12: cut at the end", made, list -> list.cut(0, 0, last));
            edges.answers(0, "12: cut at the beginning", made, list -> list.cut(0, 0, 0));
            for (int place : new int[] {-1, last + 1, -size[1], size[0], size[0] + 1, -2, Edges.LEAST, Edges.LEAST + size[1],
                Edges.GREATEST, Edges.GREATEST - size[1], Edges.GREATEST - size[1] + 1}) {
                edges.asks(false, what + place, made, list -> list.fits(0, 0, place));
                edges.refuses(Edges.STATE, "12: " + size[1] + " from " + size[0] + " at " + place, made,
                    list -> list.cut(0, 0, place));
            }
        }
        int[][] tooLong = {{100, 101}, {100, 3000}, {2999, 3000}};
        for (int[] size : tooLong) {
            Supplier<TimberList> made = () -> boardAndPart(size[0], size[1], 1);
            for (int place : new int[] {-1, 0, 1, Edges.LEAST, Edges.GREATEST}) {
                edges.asks(false, "10: longer than the board", made, list -> list.fits(0, 0, place));
                edges.refuses(Edges.STATE, "12: longer than the board", made, list -> list.cut(0, 0, place));
            }
            edges.asks(-1, "11: longer than the board", made, list -> list.earliest(0, 0));
        }
    }

    // ---- the part is not wider than the board

    private static void notWiderThanTheBoard() {
        for (int width : new int[] {11, 50, 399}) {
            for (int more = -1; more <= 1; more++) {
                int partWidth = width + more;
                boolean isPossible = more <= 0;
                Supplier<TimberList> made = () -> {
                    TimberList list = Lists.oneBoard(500, width, 0);
                    list.addPart(100, partWidth, 0, 1, true);
                    return list;
                };
                String what = "width " + partWidth + " of " + width;
                edges.asks(isPossible, "10: " + what, made, list -> list.fits(0, 0, 0));
                edges.asks(isPossible ? 0 : -1, "11: " + what, made, list -> list.earliest(0, 0));
                if (isPossible) {
                    edges.answers(0, "12: " + what, made, list -> list.cut(0, 0, 0));
                    edges.answers(0, "13: " + what, made, list -> list.join(0, 0, 0, 55, 0, 100));
                    edges.answers(1, "15: " + what, made, list -> list.plan());
                } else {
                    edges.refuses(Edges.STATE, "12: " + what, made, list -> list.cut(0, 0, 0));
                    edges.refuses(Edges.STATE, "13: " + what, made, list -> list.join(0, 0, 0, 55, 0, 100));
                    edges.asks(0, "15: " + what, made, list -> list.plan());
                }
            }
        }
    }

    // ---- the grade at each of its places is not greater than that of the part

    private static void gradeAtEachPlace() {
        for (int defect = 1; defect <= 3; defect++) {
            for (int part = 0; part <= 3; part++) {
                gradeOfADefect(defect, part);
            }
        }
    }

    /** A defect of one place at 100, and a part of a length of 40: it reaches the defect from 61 to 100 on. */
    private static void gradeOfADefect(int defect, int part) {
        Supplier<TimberList> made = () -> {
            TimberList list = Lists.oneBoard(140, 10, 0);
            list.addDefect(0, 100, 101, defect);
            list.addPart(40, 10, part, 9, true);
            return list;
        };
        boolean bears = defect <= part;
        String what = "10: a defect of " + defect + ", a part of " + part + ": ";
        edges.asks(true, what + "just ahead of it", made, list -> list.fits(0, 0, 60));
        edges.asks(bears, what + "at its last place", made, list -> list.fits(0, 0, 61));
        edges.asks(bears, what + "in its middle", made, list -> list.fits(0, 0, 80));
        edges.asks(bears, what + "at its first place", made, list -> list.fits(0, 0, 100));
        edges.asks(false, what + "just behind it, over the end", made, list -> list.fits(0, 0, 101));
        if (bears) {
            edges.answers(8, "12" + what, made, list -> list.cut(0, 0, 61));
        } else {
            edges.refuses(Edges.STATE, "12" + what, made, list -> list.cut(0, 0, 61));
            edges.refuses(Edges.STATE, "12" + what, made, list -> list.cut(0, 0, 100));
        }
    }

    // ---- it is at least the width of the saw away from each other piece of the board

    private static void widthOfTheSawAway() {
        for (int saw = 0; saw <= 10; saw++) {
            int width = saw;
            Supplier<TimberList> made = () -> {
                TimberList list = boardAndPart(500, 100, 9);
                list.addBoard(500, 10, 0);
                list.addPart(20, 10, 0, 9, false);
                list.setSaw(width);
                list.cut(0, 0, 200);
                return list;
            };
            String what = "10: a saw of " + width + ": ";
            edges.asks(true, what + "just so far ahead", made, list -> list.fits(0, 0, 100 - width));
            edges.asks(false, what + "one nearer ahead", made, list -> list.fits(0, 0, 101 - width));
            edges.asks(true, what + "just so far behind", made, list -> list.fits(0, 0, 300 + width));
            edges.asks(false, what + "one nearer behind", made, list -> list.fits(0, 0, 299 + width));
            edges.asks(false, what + "the same place", made, list -> list.fits(0, 0, 200));
            edges.asks(false, what + "a shorter one in it", made, list -> list.fits(1, 0, 240));
            edges.asks(false, what + "at its first place", made, list -> list.fits(1, 0, 200));
            edges.asks(false, what + "at its end", made, list -> list.fits(1, 0, 280));
            edges.asks(true, what + "the other board", made, list -> list.fits(0, 1, 200));
            edges.answers(7, "12: so far ahead", made, list -> list.cut(0, 0, 100 - width));
            edges.answers(7, "12: so far behind", made, list -> list.cut(0, 0, 300 + width));
            edges.refuses(Edges.STATE, "12: one nearer ahead", made, list -> list.cut(0, 0, 101 - width));
            edges.refuses(Edges.STATE, "12: one nearer behind", made, list -> list.cut(0, 0, 299 + width));
            edges.asks(width == 0 ? 300 - 200 - 100 : 0, "11: ahead of it", made, list -> list.earliest(0, 0));
        }
        Supplier<TimberList> joined = () -> {
            TimberList list = boardAndPart(500, 100, 9);
            list.join(0, 0, 103, 60, 0, 266);
            return list;
        };
        edges.asks(true, "10: ahead of a joined piece", joined, list -> list.fits(0, 0, 0));
        edges.asks(false, "10: too near to a joined piece", joined, list -> list.fits(0, 0, 1));
        edges.asks(true, "10: just between joined pieces", () -> {
            TimberList list = joined.get();
            list.undo();
            list.join(0, 0, 103, 60, 0, 269);
            return list;
        }, list -> list.fits(0, 0, 166));
        edges.asks(false, "10: too long by three for between them", joined, list -> list.fits(0, 0, 166));
    }

    private static void leftDoesNotMatterToFits() {
        edges.asks(0, "10: it is not left", BUSY, list -> list.left(1));
        edges.asks(true, "10: whether it is left does not matter", BUSY, list -> list.fits(1, 0, 0));
        edges.asks(0, "11: nor for the earliest place", BUSY, list -> list.earliest(1, 0));
    }

    // ---- 11: Returns the earliest place; -1 if there is none.

    private static void earliestPlace() {
        Supplier<TimberList> gaps = () -> {
            TimberList list = Lists.oneBoard(400, 10, 0);
            list.addDefect(0, 0, 5, 1);
            list.addDefect(0, 104, 110, 1);
            list.addPart(100, 10, 0, 9, false);
            list.addPart(99, 10, 0, 9, false);
            list.addPart(100, 10, 1, 9, false);
            list.addPart(20, 10, 3, 9, false);
            return list;
        };
        edges.asks(110, "11: a stretch that is one place too short", gaps, list -> list.earliest(0, 0));
        edges.asks(5, "11: a stretch that is just as long", gaps, list -> list.earliest(1, 0));
        edges.asks(0, "11: a part that bears the defects", gaps, list -> list.earliest(2, 0));
        edges.answers(293, "11: behind a piece, up to the very end", gaps, list -> {
            list.cut(3, 0, 209);
            list.cut(3, 0, 270);
            return list.earliest(0, 0);
        });
        edges.answers(110, "11: a room that is just as long", gaps, list -> {
            list.cut(3, 0, 213);
            return list.earliest(0, 0);
        });
        edges.answers(235, "11: a room that is one place too short", gaps, list -> {
            list.cut(3, 0, 212);
            return list.earliest(0, 0);
        });
    }

    private static void noEarliestPlace() {
        edges.asks(-1, "11: too wide", BUSY, list -> list.earliest(2, 1));
        edges.asks(-1, "11: the board's grade is greater", () -> {
            TimberList list = Lists.oneBoard(100, 10, 1);
            list.addPart(20, 10, 0, 1, true);
            return list;
        }, list -> list.earliest(0, 0));
        edges.answers(-1, "11: a defect at each place", () -> boardAndPart(100, 20, 1), list -> {
            list.addDefect(0, 0, 60, 1);
            list.addDefect(0, 60, 100, 2);
            return list.earliest(0, 0);
        });
        edges.answers(-1, "11: a place too little between defects", () -> boardAndPart(100, 20, 1), list -> {
            list.addDefect(0, 19, 20, 1);
            list.addDefect(0, 39, 81, 2);
            return list.earliest(0, 0);
        });
        edges.answers(20, "11: just enough between defects", () -> boardAndPart(100, 20, 1), list -> {
            list.addDefect(0, 19, 20, 1);
            list.addDefect(0, 40, 81, 2);
            return list.earliest(0, 0);
        });
        edges.answers(-1, "11: a piece as long as the board", () -> boardAndPart(100, 100, 2), list -> {
            list.cut(0, 0, 0);
            return list.earliest(0, 0);
        });
        edges.answers(-1, "11: what is left is nearer than the saw", () -> boardAndPart(142, 20, 9), list -> {
            list.plan();
            return list.earliest(0, 0);
        });
        edges.asks(-1, "11: a part of 3000, a board of 2999", () -> boardAndPart(2999, 3000, 1),
            list -> list.earliest(0, 0));
        edges.asks(0, "11: a part of 3000, a board of 3000", () -> boardAndPart(3000, 3000, 1),
            list -> list.earliest(0, 0));
    }

    // ---- 12: cut

    private static void cutDownToNoneLeft() {
        for (int count : new int[] {1, 2, 9}) {
            Supplier<TimberList> allButOne = () -> {
                TimberList list = boardAndPart(1000, 50, count);
                for (int i = 1; i < count; i++) {
                    list.cut(0, 0, 100 * i);
                }
                return list;
            };
            edges.answers(0, "12: how often it is left then, of " + count, allButOne, list -> list.cut(0, 0, 0));
            edges.answers("throws.IllegalStateException", "12: it is not left, of " + count, allButOne, list -> {
                list.cut(0, 0, 0);
                return list.cut(0, 0, 950);
            });
            edges.answers(0, "12: undo leaves it once more, of " + count, allButOne, list -> {
                list.cut(0, 0, 0);
                list.undo();
                return list.cut(0, 0, 950);
            });
        }
        edges.refuses(Edges.STATE, "12: it is not left", BUSY, list -> list.cut(1, 0, 0));
        edges.refuses(Edges.STATE, "12: it is not left after planning", () -> {
            TimberList list = boardAndPart(1000, 50, 9);
            list.plan();
            return list;
        }, list -> list.cut(0, 0, 900));
    }

    private static void cutNotPossible() {
        for (int place : FAR) {
            edges.refuses(Edges.STATE, "12: not within the board: " + place, BUSY, list -> list.cut(0, 0, place));
        }
        for (int place : new int[] {98, 99, 200, 220, 252, 401, 450, 501, 539, 600, 662, 901, 999}) {
            edges.refuses(Edges.STATE, "12: not possible at " + place, BUSY, list -> list.cut(0, 0, place));
        }
        for (int place : new int[] {0, 97, 253, 400, 663, 900}) {
            edges.answers(2, "12: possible at " + place, BUSY, list -> list.cut(0, 0, place));
        }
        edges.refuses(Edges.STATE, "12: wider than the board", BUSY, list -> list.cut(2, 1, 163));
    }

    private static void cutExceptionsInOrder() {
        edges.refuses(Edges.INDEX, "12: no board ahead of a part that is not left", BUSY, list -> list.cut(1, 2, 0));
        edges.refuses(Edges.INDEX, "12: no part ahead of a place that is not possible", BUSY,
            list -> list.cut(4, 0, -1));
        edges.refuses(Edges.INDEX, "12: no board ahead of a place that is not possible", BUSY,
            list -> list.cut(0, -1, -1));
        edges.refuses(Edges.STATE, "12: not left, and not possible", BUSY, list -> list.cut(1, 0, -1));
    }

    // ---- 13: join

    /** One of two lengths, of which the other one is the rest of the part's and the joint's. */
    private static void joinLengths() {
        int[][] sizes = {
            // The part's length, the joint's, and the greatest length that the first piece may have (its least is 50).
            {100, 10, 60}, {100, 0, 50}, {99, 1, 50}, {99, 2, 51}, {50, 50, 50}, {51, 50, 51}, {90, 10, 50}, {91, 10, 51},
            {3000, 50, 3000}, {3000, 0, 2950}
        };
        for (int[] size : sizes) {
            Supplier<TimberList> made = () -> {
                TimberList list = Lists.oneBoard(3000, 10, 0);
                list.addBoard(3000, 10, 0);
                list.addPart(size[0], 10, 0, 2, true);
                list.setJoint(size[1]);
                return list;
            };
            String what = "13: a part of " + size[0] + ", a joint of " + size[1] + ", a length of ";
            int both = size[0] + size[1];
            for (int length : new int[] {50, size[2], (50 + size[2]) / 2}) {
                edges.answers(1, what + length, made, list -> list.join(0, 0, 0, length, 1, 0));
                edges.answers(length, what + length + ", the first one's end", made, list -> {
                    list.join(0, 0, 0, length, 1, 0);
                    return list.piece(0, 0, 2);
                });
                edges.answers(both - length, what + length + ", the second one's end", made, list -> {
                    list.join(0, 0, 0, length, 1, 0);
                    return list.piece(1, 0, 2);
                });
            }
            for (int length : new int[] {49, size[2] + 1, 48, size[2] + 2, 0, 1, -1, both, both + 1, -both, 3050, 3051,
                Edges.LEAST, Edges.LEAST + 1, Edges.LEAST + both, Edges.LEAST + both - 1, Edges.LEAST + both + 1,
                Edges.GREATEST, Edges.GREATEST - 1, Edges.GREATEST - both}) {
                edges.refuses(Edges.ARGUMENT, what + length, made, list -> list.join(0, 0, 0, length, 1, 0));
            }
        }
        int[][] never = {{99, 0}, {20, 50}, {49, 50}, {89, 10}, {98, 1}};
        for (int[] size : never) {
            Supplier<TimberList> made = () -> {
                TimberList list = Lists.oneBoard(3000, 10, 0);
                list.addPart(size[0], 10, 0, 2, true);
                list.setJoint(size[1]);
                return list;
            };
            for (int length : new int[] {49, 50, 51, size[0], size[0] + size[1] - 50, (size[0] + size[1]) / 2}) {
                edges.refuses(Edges.ARGUMENT, "13: too little for both: " + size[0] + " " + size[1] + " by " + length, made,
                    list -> list.join(0, 0, 0, length, 0, 1000));
            }
        }
    }

    /** A piece of a joining may be as long as the board, and also longer than the part. */
    private static void joinGreatLengths() {
        Supplier<TimberList> made = () -> {
            TimberList list = Lists.oneBoard(100, 10, 0);
            list.addBoard(3000, 10, 0);
            list.addPart(100, 10, 0, 2, true);
            list.addPart(3000, 10, 0, 1, true);
            list.setJoint(50);
            return list;
        };
        edges.answers(1, "13: a piece as long as the board", made, list -> list.join(0, 0, 0, 100, 1, 0));
        edges.answers(1, "13: the second one so", made, list -> list.join(0, 1, 0, 50, 0, 0));
        edges.answers(0, "13: pieces of 3000 and 50", made, list -> list.join(1, 1, 0, 3000, 0, 0));
        edges.answers(0, "13: pieces of 50 and 3000", made, list -> list.join(1, 0, 50, 50, 1, 0));
        edges.refuses(Edges.STATE, "13: longer than the board", made, list -> list.join(1, 0, 0, 101, 1, 0));
        edges.refuses(Edges.STATE, "13: the second one longer than the board", made,
            list -> list.join(1, 1, 0, 2949, 0, 0));
    }

    private static void joinNotLeftOrNotToBeJoined() {
        Supplier<TimberList> made = () -> {
            TimberList list = Lists.oneBoard(3000, 10, 0);
            list.addPart(100, 10, 0, 2, true);
            list.addPart(100, 10, 0, 2, false);
            list.addPart(100, 10, 0, 1, true);
            list.cut(2, 0, 0);
            return list;
        };
        edges.answers(1, "13: how often it is left then", made, list -> list.join(0, 0, 200, 55, 0, 300));
        edges.answers(0, "13: a second time", made, list -> {
            list.join(0, 0, 200, 55, 0, 300);
            return list.join(0, 0, 400, 55, 0, 500);
        });
        edges.answers("throws.IllegalStateException", "13: it is not left after two", made, list -> {
            list.join(0, 0, 200, 55, 0, 300);
            list.join(0, 0, 400, 55, 0, 500);
            return list.join(0, 0, 600, 55, 0, 700);
        });
        edges.refuses(Edges.STATE, "13: it is not left", made, list -> list.join(2, 0, 200, 55, 0, 300));
        edges.refuses(Edges.STATE, "13: it may not be joined", made, list -> list.join(1, 0, 200, 55, 0, 300));
        edges.refuses(Edges.STATE, "13: it may not be joined from two boards", BUSY,
            list -> list.join(2, 0, 0, 60, 1, 170));
    }

    private static void joinEachPieceNotPossible() {
        Supplier<TimberList> made = () -> {
            TimberList list = Lists.oneBoard(1000, 10, 0);
            list.addBoard(1000, 10, 0);
            list.addBoard(1000, 9 + 1, 1);
            list.addPart(100, 10, 0, 9, true);
            list.addPart(100, 11, 0, 9, true);
            list.addBoard(1000, 11, 0);
            list.cut(0, 0, 500);
            list.addDefect(1, 700, 701, 1);
            return list;
        };
        for (int place : new int[] {-1, 946, 1000, Edges.LEAST, Edges.GREATEST, Edges.GREATEST - 54, 448, 500, 545, 602}) {
            edges.refuses(Edges.STATE, "13: the first one at " + place, made, list -> list.join(0, 0, place, 55, 1, 0));
            edges.refuses(Edges.STATE, "13: the second one at " + place, made,
                list -> list.join(0, 1, 0, 55, 0, place));
        }
        for (int place : new int[] {0, 945, 442, 603}) {
            edges.answers(7, "13: the first one at " + place, made, list -> list.join(0, 0, place, 55, 1, 0));
            edges.answers(7, "13: the second one at " + place, made, list -> list.join(0, 1, 0, 55, 0, place));
        }
        for (int place : new int[] {646, 670, 700}) {
            edges.refuses(Edges.STATE, "13: the first one over a defect", made,
                list -> list.join(0, 1, place, 55, 0, 0));
            edges.refuses(Edges.STATE, "13: the second one over a defect", made,
                list -> list.join(0, 0, 0, 55, 1, place));
        }
        for (int place : new int[] {645, 701}) {
            edges.answers(7, "13: the first one beside a defect", made, list -> list.join(0, 1, place, 55, 0, 0));
            edges.answers(7, "13: the second one beside a defect", made, list -> list.join(0, 0, 0, 55, 1, place));
        }
        edges.refuses(Edges.STATE, "13: the first one's board of a worse grade", made,
            list -> list.join(0, 2, 0, 55, 0, 0));
        edges.refuses(Edges.STATE, "13: the second one's board of a worse grade", made,
            list -> list.join(0, 0, 0, 55, 2, 0));
        edges.refuses(Edges.STATE, "13: the first one's board too narrow", made, list -> list.join(1, 0, 0, 55, 3, 0));
        edges.refuses(Edges.STATE, "13: the second one's board too narrow", made, list -> list.join(1, 3, 0, 55, 0, 0));
        edges.answers(8, "13: both on the wider board", made, list -> list.join(1, 3, 0, 55, 3, 945));
    }

    private static void joinBesideEachOther() {
        for (int saw = 0; saw <= 10; saw++) {
            int width = saw;
            Supplier<TimberList> made = () -> {
                TimberList list = boardAndPart(500, 100, 9);
                list.addBoard(500, 10, 0);
                list.setSaw(width);
                return list;
            };
            edges.answers(8, "13: just the saw between: " + width, made,
                list -> list.join(0, 0, 100, 60, 0, 160 + width));
            edges.answers(8, "13: the second one ahead: " + width, made,
                list -> list.join(0, 0, 100 + width, 60, 0, 50));
            edges.refuses(Edges.STATE, "13: one place less: " + width, made,
                list -> list.join(0, 0, 100, 60, 0, 159 + width));
            edges.refuses(Edges.STATE, "13: one place less, the second one ahead: " + width, made,
                list -> list.join(0, 0, 99 + width, 60, 0, 50));
            edges.refuses(Edges.STATE, "13: both at one place: " + width, made,
                list -> list.join(0, 0, 100, 60, 0, 100));
            edges.refuses(Edges.STATE, "13: one in the other: " + width, made,
                list -> list.join(0, 0, 100, 60, 0, 105));
            edges.answers(8, "13: at one place of two boards: " + width, made,
                list -> list.join(0, 0, 100, 60, 1, 100));
            edges.answers(8, "13: both at the edges of one board: " + width, made,
                list -> list.join(0, 0, 440, 60, 0, 0));
        }
    }

    private static void joinExceptionsInOrder() {
        edges.refuses(Edges.INDEX, "13: no part ahead of a wrong length", BUSY, list -> list.join(4, 0, 0, 49, 0, 100));
        edges.refuses(Edges.INDEX, "13: no board ahead of a wrong length", BUSY,
            list -> list.join(0, 2, 0, 49, 0, 100));
        edges.refuses(Edges.INDEX, "13: no second board ahead of a wrong length", BUSY,
            list -> list.join(0, 0, 0, 61, -1, 100));
        edges.refuses(Edges.INDEX, "13: no second board ahead of a part that is not left", BUSY,
            list -> list.join(1, 0, 0, 50, 2, 100));
        edges.refuses(Edges.INDEX, "13: no second board ahead of a place that is not possible", BUSY,
            list -> list.join(0, 0, -1, 50, 2, 100));
        edges.refuses(Edges.ARGUMENT, "13: a wrong length ahead of a part that is not left", BUSY,
            list -> list.join(1, 0, 0, 50, 0, 100));
        edges.refuses(Edges.ARGUMENT, "13: a wrong length ahead of a part that may not be joined", BUSY,
            list -> list.join(2, 0, 0, 49, 0, 300));
        edges.refuses(Edges.ARGUMENT, "13: a wrong second length ahead of a place that is not possible", BUSY,
            list -> list.join(0, 0, -1, 61, 0, -1));
        edges.refuses(Edges.STATE, "13: all that a state can forbid", BUSY, list -> list.join(2, 1, -1, 60, 1, -1));
    }

    // ---- 14: undo

    private static void undoOfNothing() {
        edges.refuses(Edges.STATE, "14: there is none in a new list", TimberList::new, list -> list.undo());
        edges.refuses(Edges.STATE, "14: there is none in the full list", FULL, list -> list.undo());
        edges.refuses(Edges.STATE, "14: all were taken back", () -> {
            TimberList list = Lists.busy();
            for (int i = 0; i < 4; i++) {
                list.undo();
            }
            return list;
        }, list -> list.undo());
        edges.refuses(Edges.STATE, "14: a refused cut is none", () -> {
            TimberList list = Lists.full();
            Story.answerTo(() -> list.cut(0, 0, -1));
            Story.answerTo(() -> list.join(0, 0, 0, 0, 0, 0));
            list.setJoint(10);
            return list;
        }, list -> list.undo());
    }

    private static void undoTakesTheLatestBack() {
        int[] due = {1, 0, 1, 0};
        for (int i = 0; i < due.length; i++) {
            int before = i;
            edges.answers(due[i], "14: the part of the latest one but " + i, BUSY, list -> {
                for (int back = 0; back < before; back++) {
                    list.undo();
                }
                return list.undo();
            });
        }
        edges.same("14: a cut is taken back", BUSY, list -> list.cut(0, 0, 0) + list.undo(), list -> 0);
        edges.same("14: a joining on one board is", BUSY,
            list -> list.join(0, 0, 0, 50, 0, 97) + list.undo(), list -> 0);
        edges.same("14: a joining from two is", BUSY, list -> list.join(0, 0, 0, 50, 1, 170) + list.undo(), list -> 0);
        edges.same("14: one of the planned ones is", PLANNED, list -> {
            int part = list.undo();
            return list.plan() + part;
        }, list -> 0);
        edges.same("14: only the latest one is", BUSY, list -> {
            list.cut(0, 0, 0);
            list.join(0, 0, 300, 50, 0, 400);
            return list.undo();
        }, list -> list.cut(0, 0, 0));
        edges.answers(2, "14: undo of undo takes one more back", BUSY, list -> {
            list.cut(2, 0, 700);
            list.cut(0, 0, 0);
            list.undo();
            return list.undo();
        });
    }

    // ---- 15: plan

    private static void planNothing() {
        edges.asks(0, "15: no boards and no parts", TimberList::new, list -> list.plan());
        edges.asks(0, "15: no parts", () -> Lists.oneBoard(100, 10, 0), list -> list.plan());
        edges.asks(0, "15: none is left", () -> {
            TimberList list = boardAndPart(1000, 20, 2);
            list.cut(0, 0, 0);
            list.cut(0, 0, 100);
            return list;
        }, list -> list.plan());
        edges.asks(0, "15: none can be cut", () -> boardAndPart(100, 101, 9), list -> list.plan());
        edges.asks(0, "15: planned already", PLANNED, list -> list.plan());
    }

    /** What planning cuts from one board, told by the parts in the order of their cuts. */
    private static void planOrder(String what, int[][] parts, int... due) {
        Supplier<TimberList> made = () -> {
            TimberList list = Lists.oneBoard(1000, 10, 0);
            for (int[] part : parts) {
                list.addPart(part[0], 10, part[1], part[2], false);
            }
            list.plan();
            return list;
        };
        edges.asks(due.length, what + ": how many", made, list -> list.pieces(0));
        for (int i = 0; i < due.length; i++) {
            int piece = i;
            edges.asks(due[i], what + ": piece " + i, made, list -> list.piece(0, piece, 0));
            edges.answers(due[due.length - 1 - i], what + ": undo " + i, made, list -> {
                for (int back = 0; back < piece; back++) {
                    list.undo();
                }
                return list.undo();
            });
        }
    }

    private static void planTheLongest() {
        planOrder("15: the longest one, by one place", new int[][] {{50, 0, 1}, {51, 3, 1}, {49, 0, 1}}, 1, 0, 2);
        planOrder("15: the longest one, as often as it is left", new int[][] {{50, 0, 2}, {200, 3, 3}}, 1, 1, 1, 0, 0);
        planOrder("15: a shorter one if the longest cannot be cut", new int[][] {{50, 0, 1}, {1001, 0, 9}, {600, 0, 2}}, 2, 0);
        planOrder("15: the longest board and part", new int[][] {{20, 0, 1}, {1000, 0, 2}}, 1);
    }

    private static void planTheSmallestGrade() {
        planOrder("15: the smallest grade", new int[][] {{50, 3, 1}, {50, 2, 1}, {50, 0, 1}, {50, 1, 1}}, 2, 3, 1, 0);
        planOrder("15: the length ahead of the grade", new int[][] {{50, 0, 1}, {51, 3, 1}}, 1, 0);
    }

    private static void planTheSmallestNumber() {
        planOrder("15: the smallest number", new int[][] {{50, 1, 2}, {50, 1, 1}, {50, 1, 2}}, 0, 0, 1, 2, 2);
        planOrder("15: the grade ahead of the number", new int[][] {{50, 1, 1}, {50, 0, 1}, {50, 1, 1}}, 1, 0, 2);
    }

    /** The board from which planning cuts a part of 100, of boards of these lengths. */
    private static void planFrom(String what, int due, int... lengths) {
        edges.answers(1, what, () -> {
            TimberList list = new TimberList();
            for (int length : lengths) {
                list.addBoard(length, 10, 0);
            }
            list.addPart(100, 10, 0, 1, false);
            return list;
        }, list -> list.plan() == 1 ? list.pieces(due) : -1);
    }

    private static void planTheLeastLengthLeft() {
        planFrom("15: one place less is left", 1, 200, 199, 201);
        planFrom("15: nothing is left", 2, 101, 102, 100);
        planFrom("15: of several the smallest number", 0, 150, 150, 150);
        planFrom("15: of several shorter ones the smallest number", 1, 151, 150, 150);
        planFrom("15: the last one of ten", 9, 110, 109, 108, 107, 106, 105, 104, 103, 102, 101);
        planFrom("15: the first one of ten", 0, 101, 102, 103, 104, 105, 106, 107, 108, 109, 110);
    }

    /** A piece of 20 on board 0 leaves rooms of 200 less the saw: board 1 is shorter by one place, as long, or longer. */
    private static void planTheFreeRoom() {
        for (int saw : new int[] {0, 3, 10}) {
            for (int more = -1; more <= 1; more++) {
                int length = 200 - saw + more;
                int due = more < 0 ? 1 : 0;
                edges.answers(due, "15: the room ahead of a piece, a saw of " + saw + ", beside " + length,
                    () -> rooms(saw, length, 200), list -> list.plan() == 1 ? list.pieces(1) : -1);
                edges.answers(due, "15: the room behind a piece, a saw of " + saw + ", beside " + length, () -> {
                    TimberList list = rooms(saw, length, 780);
                    list.addDefect(0, 0, 780, 3);
                    return list;
                }, list -> list.plan() == 1 ? list.pieces(1) : -1);
            }
        }
        edges.answers(1, "15: a room goes on over defects that are too bad", () -> {
            TimberList list = Lists.oneBoard(300, 10, 0);
            list.addDefect(0, 110, 300, 3);
            list.addBoard(299, 10, 0);
            list.addPart(100, 10, 0, 1, false);
            return list;
        }, list -> list.plan() == 1 ? list.pieces(1) : -1);
    }

    /** Board 0 of 1000 with a piece of 20 from this place on, board 1 of this length, part 1 of 100 still to be cut. */
    private static TimberList rooms(int saw, int otherLength, int place) {
        TimberList list = Lists.oneBoard(1000, 10, 0);
        list.addBoard(otherLength, 10, 0);
        list.addPart(20, 10, 0, 1, false);
        list.addPart(100, 10, 0, 1, false);
        list.setSaw(saw);
        list.cut(0, 0, place);
        return list;
    }

    private static void planTheEarliestPlaceAlone() {
        // The room at the earliest place is 480 long, a later one would be just 100 long: board 1 is 479 or 481 long.
        for (int more : new int[] {-1, 0, 1}) {
            edges.answers(more < 0 ? 1 : 0, "15: the earliest place alone is looked at: " + more, () -> {
                TimberList list = Lists.oneBoard(1000, 10, 0);
                list.addBoard(480 + more, 10, 0);
                list.addPart(20, 10, 0, 2, false);
                list.addPart(100, 10, 0, 1, false);
                list.setSaw(0);
                list.cut(0, 0, 480);
                list.cut(0, 0, 600);
                return list;
            }, list -> list.plan() == 1 ? list.pieces(1) : -1);
        }
        edges.answers(0, "15: at the earliest place there", () -> boardAndPart(1000, 100, 1),
            list -> list.plan() == 1 ? list.piece(0, 0, 1) : -1);
        edges.answers(7, "15: at the earliest place behind a defect", () -> {
            TimberList list = boardAndPart(1000, 100, 1);
            list.addDefect(0, 3, 7, 1);
            return list;
        }, list -> list.plan() == 1 ? list.piece(0, 0, 1) : -1);
    }

    private static void planCutsAll() {
        Supplier<TimberList> all = () -> {
            TimberList list = new TimberList();
            for (int i = 0; i < 10; i++) {
                list.addBoard(3000, 400, 0);
            }
            for (int i = 0; i < 12; i++) {
                list.addPart(20 + i, 400, 0, 9, false);
            }
            return list;
        };
        edges.answers(108, "15: how many parts were cut, of the most that can be wanted", all, list -> list.plan());
        edges.answers(0, "15: none is left then", all, list -> {
            list.plan();
            int left = 0;
            for (int i = 0; i < 12; i++) {
                left += list.left(i);
            }
            return left;
        });
        edges.answers(0, "15: the least part is the last one", all, list -> {
            list.plan();
            return list.undo();
        });
        // With a saw of 3, 34 pieces of 20 take 34 * 20 + 33 * 3 = 779, and 27 of them 27 * 20 + 26 * 3 = 618.
        for (int length : new int[] {618, 617}) {
            Supplier<TimberList> row = () -> {
                TimberList list = Lists.oneBoard(length, 10, 0);
                for (int i = 0; i < 3; i++) {
                    list.addPart(20, 10, 0, 9, false);
                }
                return list;
            };
            edges.answers(length == 618 ? 27 : 26, "15: as many as the board has room for", row, list -> list.plan());
        }
        edges.answers(1, "15: nothing is joined", () -> boardAndPart(150, 100, 2), list -> list.plan());
    }

    // ---- 16 to 18: left, pieces, piece

    private static void leftOfNoPart() {
        int[] due = {3, 0, 2, 1};
        for (int part = 0; part < due.length; part++) {
            int of = part;
            edges.asks(due[of], "16: its count, less the number of times that it was cut or joined", BUSY,
                list -> list.left(of));
        }
        edges.refuses(Edges.INDEX, "16: there is no such part in a new list", TimberList::new, list -> list.left(0));
    }

    private static void piecesOfNoBoard() {
        for (int board : Edges.outside(2)) {
            edges.refuses(Edges.INDEX, "17: there is no such board: " + board, BUSY, list -> list.pieces(board));
        }
        for (int board : Edges.outside(10)) {
            edges.refuses(Edges.INDEX, "17: none in the full list: " + board, PLANNED, list -> list.pieces(board));
        }
        edges.asks(3, "17: the first board", BUSY, list -> list.pieces(0));
        edges.asks(2, "17: the last board", BUSY, list -> list.pieces(1));
        edges.asks(0, "17: a board without pieces", FULL, list -> list.pieces(9));
    }

    private static void noSuchPieceOrWhat() {
        for (int board : Edges.outside(2)) {
            edges.refuses(Edges.INDEX, "18: there is no such board: " + board, BUSY, list -> list.piece(board, 0, 0));
        }
        for (int piece : Edges.outside(3)) {
            edges.refuses(Edges.INDEX, "18: there is no such piece: " + piece, BUSY, list -> list.piece(0, piece, 0));
        }
        for (int piece : Edges.outside(2)) {
            edges.refuses(Edges.INDEX, "18: none of the other board: " + piece, BUSY, list -> list.piece(1, piece, 3));
        }
        for (int piece : new int[] {0, 1, -1, Edges.LEAST, Edges.GREATEST}) {
            edges.refuses(Edges.INDEX, "18: a board without pieces: " + piece, FULL, list -> list.piece(0, piece, 0));
        }
        for (int what : Edges.outside(0, 3)) {
            edges.refuses(Edges.INDEX, "18: what is not 0 to 3: " + what, BUSY, list -> list.piece(0, 0, what));
            edges.refuses(Edges.INDEX, "18: nor with no piece: " + what, BUSY, list -> list.piece(0, 3, what));
        }
        edges.answers("throws.IndexOutOfBoundsException", "18: what was taken back is no piece", BUSY, list -> {
            list.undo();
            return list.piece(1, 1, 0);
        });
    }

    private static void piecesInAscendingOrder() {
        int[][] first = {{0, 200, 250, 1}, {1, 520, 560, 0}, {0, 600, 660, 1}};
        int[][] second = {{0, 20, 120, 0}, {1, 123, 163, 0}};
        for (int what = 0; what <= 3; what++) {
            int of = what;
            for (int i = 0; i < first.length; i++) {
                int piece = i;
                edges.asks(first[i][of], "18: piece " + i + " of board 0, " + of, BUSY,
                    list -> list.piece(0, piece, of));
            }
            for (int i = 0; i < second.length; i++) {
                int piece = i;
                edges.asks(second[i][of], "18: piece " + i + " of board 1, " + of, BUSY,
                    list -> list.piece(1, piece, of));
            }
        }
        Supplier<TimberList> edge = () -> boardAndPart(3000, 100, 9);
        edges.answers(0, "18: a piece at the beginning", edge,
            list -> list.cut(0, 0, 0) == 8 ? list.piece(0, 0, 1) : -1);
        edges.answers(3000, "18: a piece at the end", edge,
            list -> list.cut(0, 0, 2900) == 8 ? list.piece(0, 0, 2) : -1);
    }

    // ---- An object is used for at most 512 calls after it has been made.

    private static void fiveHundredAndTwelveCalls() {
        // 46 calls and one make the planned list, and the one that answers is the last one of 512.
        edges.answers(PLANNED.get().digest(), "the 512th call, after undo and planning in turn", PLANNED, list -> {
            for (int round = 0; round < (511 - 47) / 2; round++) {
                list.undo();
                list.plan();
            }
            return list.digest();
        });
        edges.answers(511, "the 512th call, after 511 that were refused", TimberList::new, list -> {
            int refused = 0;
            for (int i = 0; i < 511; i++) {
                refused += Story.answerTo(() -> list.undo()).startsWith("throws.") ? 1 : 0;
            }
            return list.addBoard(100, 10, 0) + refused;
        });
    }
}
