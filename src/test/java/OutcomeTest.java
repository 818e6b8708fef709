/** Promises 19 to 23: ordinary inputs, the edges that the document names, wrong inputs. */
public final class OutcomeTest {
    private static final Class<IllegalArgumentException> ARGUMENT = IllegalArgumentException.class;
    private static final Class<IndexOutOfBoundsException> INDEX = IndexOutOfBoundsException.class;
    private static final int[] NO_INDEX = {-1, 2, Integer.MIN_VALUE, Integer.MAX_VALUE};

    private static final Check check = new Check();

    public static void main(String[] args) {
        cuts();
        cutsWithoutWidth();
        longestRoom();
        bestUse();
        bestUseOfParts();
        bestUseLimits();
        used();
        digest();
        check.end("OutcomeTest");
    }

    private static void cuts() {
        TimberList list = Lists.twoOfEach();
        check.is("19: without pieces", list.cuts(0), 0);
        list.cut(0, 0, 0);
        check.is("19: behind a piece at the beginning", list.cuts(0), 1);
        list.cut(1, 0, 960);
        check.is("19: ahead of a piece at the end", list.cuts(0), 2);
        list.cut(0, 0, 103);
        check.is("19: just the saw between", list.cuts(0), 3);
        list.cut(0, 0, 207);
        check.is("19: one place more between", list.cuts(0), 5);
        list.join(0, 0, 310, 50, 0, 897);
        check.is("19: a joining of 50 and 60", list.cuts(0), 7);
        check.is("19: the other board", list.cuts(1), 0);
        list.cut(1, 1, 3);
        check.is("19: nearer to the beginning than to touch it", list.cuts(1), 2);
        list.undo();
        check.is("19: after undo", list.cuts(1), 0);
        TimberList whole = new TimberList();
        whole.addBoard(100, 10, 0);
        whole.addPart(100, 10, 0, 1, false);
        whole.plan();
        check.is("19: a piece of the whole board", whole.cuts(0), 0);
        for (int board : NO_INDEX) {
            check.refuses(INDEX, list, "19: cuts", () -> list.cuts(board));
        }
    }

    private static void cutsWithoutWidth() {
        TimberList list = Lists.twoOfEach();
        list.setSaw(0);
        list.cut(0, 0, 100);
        list.cut(0, 0, 200);
        check.is("19: ends that touch, by a saw without a width", list.cuts(0), 3);
        list.cut(0, 0, 301);
        check.is("19: ends that do not touch", list.cuts(0), 5);
    }

    private static void longestRoom() {
        TimberList list = Lists.striped();
        check.is("20: the whole board, over its defects", list.longestRoom(0), 1000);
        list.cut(0, 0, 500);
        check.is("20: ahead of a piece", list.longestRoom(0), 497);
        list.cut(1, 0, 100);
        check.is("20: behind a piece", list.longestRoom(0), 397);
        list.cut(0, 0, 750);
        check.is("20: between pieces", list.longestRoom(0), 354);
        check.is("20: the other board", list.longestRoom(1), 100);
        list.cut(1, 1, 2);
        check.is("20: nothing ahead of it", list.longestRoom(1), 55);
        for (int board : NO_INDEX) {
            check.refuses(INDEX, list, "20: longestRoom", () -> list.longestRoom(board));
        }
        TimberList full = new TimberList();
        full.addBoard(103, 10, 0);
        full.addPart(50, 10, 0, 2, false);
        full.addPart(100, 10, 0, 1, false);
        full.cut(0, 0, 0);
        check.is("20: with one piece", full.longestRoom(0), 50);
        full.cut(0, 0, 53);
        check.is("20: no room at all", full.longestRoom(0), 0);
        full.undo();
        full.undo();
        full.cut(1, 0, 2);
        check.is("20: less than the saw on both sides", full.longestRoom(0), 0);
    }

    private static void bestUse() {
        TimberList list = new TimberList();
        list.addBoard(100, 50, 2);
        check.is("21: without parts", list.bestUse(0, 0, 3000), 0);
        list.addPart(50, 50, 3, 2, false);
        list.addPart(70, 10, 3, 2, true);
        int[][] due = {{0, 0}, {49, 0}, {50, 50}, {69, 50}, {70, 70}, {102, 70}, {103, 100}, {122, 100}, {123, 120},
            {142, 120}, {143, 140}, {175, 140}, {176, 170}, {195, 170}, {196, 190}, {248, 190}, {249, 240}, {3000, 240}};
        for (int[] d : due) {
            check.is("21: a row of " + d[0], list.bestUse(0, 0, d[0]), d[1]);
        }
        list.setSaw(0);
        check.is("21: a saw without a width", list.bestUse(0, 0, 240), 240);
        check.is("21: a row that is one place too short", list.bestUse(0, 0, 239), 190);
        list.setSaw(10);
        check.is("21: the widest saw", list.bestUse(0, 0, 270), 240);
        check.is("21: its row one place too short", list.bestUse(0, 0, 269), 190);
    }

    private static void bestUseOfParts() {
        TimberList list = new TimberList();
        list.addBoard(100, 50, 2);
        list.addBoard(1000, 49, 0);
        list.addPart(60, 50, 1, 2, false);
        list.addPart(25, 10, 2, 1, true);
        check.is("21: on the wide board", list.bestUse(0, 0, 1000), 145);
        check.is("21: on the narrow board", list.bestUse(1, 0, 1000), 25);
        check.is("21: of grade 1", list.bestUse(0, 1, 1000), 145);
        check.is("21: of grade 2", list.bestUse(0, 2, 1000), 25);
        check.is("21: of grade 3", list.bestUse(0, 3, 1000), 0);
        list.addBoard(200, 50, 0);
        list.cut(0, 2, 0);
        check.is("21: only what is left", list.bestUse(0, 0, 1000), 85);
        list.cut(0, 2, 100);
        list.cut(1, 2, 170);
        check.is("21: nothing is left", list.bestUse(0, 0, 1000), 0);
        list.undo();
        check.is("21: after undo", list.bestUse(0, 0, 1000), 25);
        list.addPart(3000, 10, 3, 9, false);
        check.is("21: the longest row", list.bestUse(0, 3, 3000), 3000);
        check.is("21: one place less", list.bestUse(0, 3, 2999), 0);
        TimberList widest = Lists.twoOfEach();
        widest.setSaw(10);
        check.is("21: the longest row and the widest saw", widest.bestUse(0, 0, 3000), 980);
    }

    private static void bestUseLimits() {
        TimberList list = Lists.twoOfEach();
        for (int board : NO_INDEX) {
            check.refuses(INDEX, list, "21: bestUse", () -> list.bestUse(board, 9, -1));
        }
        for (int grade : new int[] {-1, 4, Integer.MIN_VALUE, Integer.MAX_VALUE}) {
            check.refuses(ARGUMENT, list, "21: bestUse", () -> list.bestUse(0, grade, 100));
        }
        for (int length : new int[] {-1, 3001, Integer.MIN_VALUE, Integer.MAX_VALUE}) {
            check.refuses(ARGUMENT, list, "21: bestUse", () -> list.bestUse(0, 0, length));
        }
    }

    private static void used() {
        TimberList list = Lists.twoOfEach();
        check.is("22: without pieces", list.used(), 0.0);
        list.cut(1, 0, 0);
        check.is("22: one piece", list.used(), 400.0 / 100000.0);
        list.join(0, 0, 100, 50, 0, 200);
        check.is("22: a joining takes the joint's length too", list.used(), 7000.0 / 100000.0);
        list.cut(1, 1, 0);
        check.is("22: two boards", list.used(), 7400.0 / 105000.0);
        list.undo();
        check.is("22: after undo", list.used(), 7000.0 / 100000.0);
        list.undo();
        list.undo();
        check.is("22: without pieces again", list.used(), 0.0);
        check.is("22: of the greatest boards", greatestBoards().used(), 1.0);
    }

    private static TimberList greatestBoards() {
        TimberList list = new TimberList();
        for (int i = 0; i < 10; i++) {
            list.addBoard(3000, 400, 0);
        }
        list.addPart(3000, 400, 0, 9, false);
        list.addPart(3000, 400, 0, 1, false);
        list.plan();
        return list;
    }

    private static void digest() {
        TimberList list = new TimberList();
        list.setSaw(4);
        list.setJoint(12);
        check.is("23: the saw and the joint", list.digest(), Lists.numbers(4, 12, 0, 0, 0));
        list.addPart(100, 10, 1, 3, true);
        list.addPart(40, 10, 1, 5, true);
        list.addBoard(1000, 10, 0);
        list.addBoard(1000, 10, 0);
        list.addDefect(1, 0, 10, 3);
        check.is("23: without pieces", list.digest(), Lists.numbers(4, 12, 1, 2, 3, 5, 2, 0, 0));
        list.cut(1, 1, 500);
        list.join(0, 1, 10, 62, 0, 7);
        check.is("23: with pieces", list.digest(),
            Lists.numbers(4, 12, 1, 2, 2, 4, 2, 1, 0, 7, 57, 1, 2, 0, 10, 72, 1, 1, 500, 540, 0));
    }
}
