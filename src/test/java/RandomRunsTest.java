import java.util.Random;
import java.util.function.Supplier;

/** Long runs of mixed calls, by fixed seeds: TimberList and SlowList have to answer alike. */
public final class RandomRunsTest {
    private static final int RUNS = 3000;
    /** An object is used for at most 512 calls, and digest() is asked behind each of these. */
    private static final int CALLS = 256;
    private static final int[] FAR = {-1, -2, Integer.MIN_VALUE, Integer.MAX_VALUE, Integer.MAX_VALUE - 20, 3000, 12, 10};

    private final Check check;
    private final Random random;
    private final int run;
    private final int longestBoard;
    private final int longestPart;
    private final boolean isCrowded;
    private final TimberList list = new TimberList();
    private final SlowList slow = new SlowList();

    private RandomRunsTest(Check check, int run) {
        this.check = check;
        this.run = run;
        this.random = new Random(run);
        boolean isLong = run % 50 == 0;
        this.longestBoard = isLong ? 3000 : 100 + random.nextInt(300);
        this.isCrowded = run % 3 == 0;
        this.longestPart = isLong ? 900 : 40 + random.nextInt(longestBoard);
    }

    public static void main(String[] args) {
        Check check = new Check();
        for (int run = 0; run < RUNS; run++) {
            new RandomRunsTest(check, run).play();
        }
        check.end("RandomRunsTest");
    }

    private void play() {
        for (int i = 0; i < CALLS; i++) {
            if (i < (isCrowded ? 70 : 20) || random.nextInt(12) == 0) {
                change();
            } else {
                int kind = random.nextInt(10);
                if (kind < 3) {
                    take();
                } else {
                    ask();
                }
            }
            compare("digest()", () -> list.digest(), () -> slow.digest());
        }
    }

    private void change() {
        int board = board();
        int grade = number(0, 3);
        int length = number(100, longestBoard);
        int width = number(10, 10 + random.nextInt(3));
        switch (random.nextInt(6)) {
            case 0 -> compare("addBoard " + length + " " + width + " " + grade,
                () -> list.addBoard(length, width, grade), () -> slow.addBoard(length, width, grade));
            case 1 -> {
                int from = number(0, longestBoard - 1);
                int to = random.nextInt(20) == 0 ? number(0, longestBoard) : from + 1 + random.nextInt(30);
                int worse = number(1, 3);
                compare("addDefect " + board + " " + from + " " + to + " " + worse,
                    () -> list.addDefect(board, from, to, worse), () -> slow.addDefect(board, from, to, worse));
            }
            case 2, 3 -> {
                int partLength = number(20, longestPart);
                int count = number(1, 9);
                boolean canBeJoined = random.nextInt(4) > 0;
                compare("addPart " + partLength + " " + width + " " + grade + " " + count + " " + canBeJoined,
                    () -> list.addPart(partLength, width, grade, count, canBeJoined),
                    () -> slow.addPart(partLength, width, grade, count, canBeJoined));
            }
            case 4 -> {
                int saw = number(0, 10);
                compare("setSaw " + saw, () -> list.setSaw(saw), () -> slow.setSaw(saw));
            }
            default -> {
                int joint = number(0, 50);
                compare("setJoint " + joint, () -> list.setJoint(joint), () -> slow.setJoint(joint));
            }
        }
    }

    private void take() {
        int part = part();
        int board = board();
        // Planning takes nearly all that is left: every other run goes without, for the sake of joinings.
        boolean isPlanned = run % 2 == 0;
        switch (isPlanned ? random.nextInt(20) : 5 + random.nextInt(15)) {
            case 0 -> compare("plan", () -> list.plan(), () -> slow.plan());
            case 1, 2, 3, 4, 5 -> compare("undo", () -> list.undo(), () -> slow.undo());
            case 6, 7, 8, 9, 10, 11, 12 -> {
                int other = random.nextBoolean() ? board : board();
                int placeA = place(part, board);
                int length = number(50, Math.max(50, slow.lengthOf(part) - 35));
                int placeB = random.nextBoolean() ? place(part, other) : placeA + length + number(0, 12);
                compare("join " + part + " " + board + " " + placeA + " " + length + " " + other + " " + placeB,
                    () -> list.join(part, board, placeA, length, other, placeB),
                    () -> slow.join(part, board, placeA, length, other, placeB));
            }
            default -> {
                int place = place(part, board);
                compare("cut " + part + " " + board + " " + place,
                    () -> list.cut(part, board, place), () -> slow.cut(part, board, place));
            }
        }
    }

    private void ask() {
        int part = part();
        int board = board();
        int grade = number(0, 3);
        int place = place(part, board);
        int small = number(0, 5);
        boolean isEnd = random.nextBoolean();
        String with = " part " + part + " board " + board + " grade " + grade + " place " + place + " small " + small;
        switch (random.nextInt(14)) {
            case 0 -> compare("grade" + with, () -> list.grade(board, place), () -> slow.grade(board, place));
            case 1 -> compare("stretches" + with, () -> list.stretches(board, grade), () -> slow.stretches(board, grade));
            case 2 -> compare("stretch" + with, () -> list.stretch(board, grade, small, isEnd),
                () -> slow.stretch(board, grade, small, isEnd));
            case 3, 4 -> compare("fits" + with, () -> list.fits(part, board, place), () -> slow.fits(part, board, place));
            case 5, 6 -> compare("earliest" + with, () -> list.earliest(part, board), () -> slow.earliest(part, board));
            case 7 -> compare("left" + with, () -> list.left(part), () -> slow.left(part));
            case 8 -> compare("pieces" + with, () -> list.pieces(board), () -> slow.pieces(board));
            case 9 -> compare("piece" + with, () -> list.piece(board, small, grade), () -> slow.piece(board, small, grade));
            case 10 -> compare("cuts" + with, () -> list.cuts(board), () -> slow.cuts(board));
            case 11 -> compare("longestRoom" + with, () -> list.longestRoom(board), () -> slow.longestRoom(board));
            case 12 -> {
                int length = number(0, Math.min(3000, 2 * longestBoard));
                compare("bestUse " + length + with, () -> list.bestUse(board, grade, length),
                    () -> slow.bestUse(board, grade, length));
            }
            default -> compare("used", () -> list.used(), () -> slow.used());
        }
    }

    private int number(int least, int greatest) {
        int dice = random.nextInt(200);
        if (dice == 0) {
            return FAR[random.nextInt(FAR.length)];
        }
        if (dice < 3) {
            return dice == 1 ? least - 1 : greatest + 1;
        }
        if (dice < 8) {
            return dice < 6 ? least : greatest;
        }
        return least + random.nextInt(greatest - least + 1);
    }

    private int board() {
        return number(0, isCrowded ? 9 : 3);
    }

    private int part() {
        return number(0, isCrowded ? 11 : 5);
    }

    /** Often a place that is possible, or just beside one. */
    private int place(int part, int board) {
        int nearby = random.nextInt(5) - 2;
        if (random.nextInt(3) > 0) {
            try {
                return slow.earliest(part, board) + Math.max(nearby, 0) * random.nextInt(2);
            } catch (IndexOutOfBoundsException e) {
                return nearby;
            }
        }
        return number(0, longestBoard - 1);
    }

    private void compare(String call, Supplier<Object> got, Supplier<Object> due) {
        check.is("run " + run + ": " + call, answer(got), answer(due));
    }

    private static String answer(Supplier<Object> call) {
        try {
            return String.valueOf(call.get());
        } catch (RuntimeException e) {
            return "throws." + Check.nameOf(e);
        }
    }
}
