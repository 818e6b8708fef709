/** Lists to begin with, and the digest of given numbers. */
final class Lists {
    private Lists() {
    }

    /** Two boards and two parts: enough for the questions that only want numbers that are there. */
    static TimberList twoOfEach() {
        TimberList list = new TimberList();
        list.addBoard(1000, 100, 1);
        list.addBoard(100, 50, 0);
        list.addPart(100, 60, 1, 9, true);
        list.addPart(40, 10, 3, 2, false);
        return list;
    }

    /** A board of grade 1: grade 2 from 100 to 200, grade 3 from 150 to 250, and grade 2 from 900 to its end at 1000. */
    static TimberList striped() {
        TimberList list = twoOfEach();
        list.addDefect(0, 900, 1000, 2);
        list.addDefect(0, 150, 250, 3);
        list.addDefect(0, 100, 200, 2);
        return list;
    }

    /**
     * Boards of 1000 and 300, with defects and pieces: part 0 was joined on board 0 and cut from board 1, part 1 was cut
     * as often as it may be, part 2 fits on board 0 only, part 3 may be joined and is left once.
     */
    static TimberList busy() {
        TimberList list = new TimberList();
        list.addBoard(1000, 100, 1);
        list.addBoard(300, 60, 0);
        list.addDefect(0, 500, 520, 2);
        list.addDefect(0, 515, 540, 3);
        list.addDefect(1, 0, 10, 1);
        list.addPart(100, 60, 1, 5, true);
        list.addPart(40, 10, 3, 2, false);
        list.addPart(200, 100, 2, 2, false);
        list.addPart(150, 50, 1, 1, true);
        list.join(0, 0, 600, 60, 0, 200);
        list.cut(1, 0, 520);
        list.cut(0, 1, 20);
        list.cut(1, 1, 123);
        return list;
    }

    /** 10 boards, 24 defects, 12 parts: no more of them can be added. */
    static TimberList full() {
        TimberList list = new TimberList();
        for (int i = 0; i < 10; i++) {
            list.addBoard(300 + 10 * i, 20 + 10 * i, i % 3);
        }
        for (int i = 0; i < 24; i++) {
            list.addDefect(i % 10, 10 * i, 10 * i + 5, 1 + i % 3);
        }
        for (int i = 0; i < 12; i++) {
            list.addPart(40 + 10 * i, 10 + 5 * i, 1 + i % 3, 1 + i % 2, i % 2 == 0);
        }
        return list;
    }

    /** The full list, with what planning cuts from it. */
    static TimberList fullAndPlanned() {
        TimberList list = full();
        list.plan();
        return list;
    }

    /** One board of these sizes, without defects. */
    static TimberList oneBoard(int length, int width, int grade) {
        TimberList list = new TimberList();
        list.addBoard(length, width, grade);
        return list;
    }

    /** What the digest of these numbers is. */
    static long numbers(long... all) {
        long d = 269;
        for (long x : all) {
            d = d * 31 + x;
        }
        return d;
    }
}
