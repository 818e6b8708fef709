/** Lists to begin with, and the digest of given numbers. */
final class Lists {
    private Lists() {
    }

    /** Two boards and two parts: enough for the questions that only want numbers that are there. */
    static TimberList twoOfEach() {
        TimberList list = new TimberList();
        list.addBoard(1000, 100, 1);
        list.addBoard(100, 50, 0);
        list.addPart(100, 60, 1, 9, true);
        list.addPart(40, 10, 3, 2, false);
        return list;
    }

    /** A board of grade 1: grade 2 from 100 to 200, grade 3 from 150 to 250, and grade 2 from 900 to its end at 1000. */
    static TimberList striped() {
        TimberList list = twoOfEach();
        list.addDefect(0, 900, 1000, 2);
        list.addDefect(0, 150, 250, 3);
        list.addDefect(0, 100, 200, 2);
        return list;
    }

    /** What the digest of these numbers is. */
    static long numbers(long... all) {
        long d = 269;
        for (long x : all) {
            d = d * 31 + x;
        }
        return d;
    }
}
