import java.util.ArrayList;
import java.util.List;

/** What the document says, done place by place and without any haste, for comparing. */
final class SlowList {
    private static final class SlowPart {
        int length;
        int width;
        int grade;
        int left;
        boolean canBeJoined;
    }

    private static final class SlowPiece {
        int part;
        int board;
        int from;
        int to;
        boolean isJoined;
        int cutting;
    }

    private final List<int[]> grades = new ArrayList<>();
    private final List<Integer> widths = new ArrayList<>();
    private final List<SlowPart> parts = new ArrayList<>();
    private final List<SlowPiece> all = new ArrayList<>();
    private int defects = 0;
    private int saw = 3;
    private int joint = 10;
    private int cuttings = 0;

    int addBoard(int length, int width, int grade) {
        argument(length >= 100 && length <= 3000 && width >= 10 && width <= 400 && grade >= 0 && grade <= 3);
        state(grades.size() < 10);
        int[] row = new int[length];
        java.util.Arrays.fill(row, grade);
        grades.add(row);
        widths.add(width);
        return grades.size() - 1;
    }

    int addDefect(int board, int from, int to, int grade) {
        index(board, grades.size());
        int[] row = grades.get(board);
        argument(from >= 0 && to > from && to <= row.length && grade >= 1 && grade <= 3);
        state(defects < 24);
        int[] after = row.clone();
        for (int p = from; p < to; p++) {
            after[p] = Math.max(after[p], grade);
        }
        for (SlowPiece piece : of(board)) {
            for (int p = piece.from; p < piece.to; p++) {
                state(after[p] <= parts.get(piece.part).grade);
            }
        }
        grades.set(board, after);
        return ++defects;
    }

    int addPart(int length, int width, int grade, int count, boolean canBeJoined) {
        argument(length >= 20 && length <= 3000 && width >= 10 && width <= 400 && grade >= 0 && grade <= 3
            && count >= 1 && count <= 9);
        state(parts.size() < 12);
        SlowPart part = new SlowPart();
        part.length = length;
        part.width = width;
        part.grade = grade;
        part.left = count;
        part.canBeJoined = canBeJoined;
        parts.add(part);
        return parts.size() - 1;
    }

    int setSaw(int width) {
        argument(width >= 0 && width <= 10);
        state(all.isEmpty());
        int before = saw;
        saw = width;
        return before;
    }

    int setJoint(int length) {
        argument(length >= 0 && length <= 50);
        int before = joint;
        joint = length;
        return before;
    }

    int grade(int board, int place) {
        index(board, grades.size());
        index(place, grades.get(board).length);
        return grades.get(board)[place];
    }

    int stretches(int board, int grade) {
        index(board, grades.size());
        argument(grade >= 0 && grade <= 3);
        return stretchList(board, grade).size();
    }

    int stretch(int board, int grade, int stretch, boolean isEnd) {
        index(board, grades.size());
        argument(grade >= 0 && grade <= 3);
        List<int[]> found = stretchList(board, grade);
        argument(stretch >= 0 && stretch < found.size());
        return found.get(stretch)[isEnd ? 1 : 0];
    }

    boolean fits(int part, int board, int place) {
        index(part, parts.size());
        index(board, grades.size());
        return isPossible(part, board, place, parts.get(part).length);
    }

    int earliest(int part, int board) {
        index(part, parts.size());
        index(board, grades.size());
        for (int p = 0; p < grades.get(board).length; p++) {
            if (isPossible(part, board, p, parts.get(part).length)) {
                return p;
            }
        }
        return -1;
    }

    int cut(int part, int board, int place) {
        index(part, parts.size());
        index(board, grades.size());
        state(parts.get(part).left > 0 && isPossible(part, board, place, parts.get(part).length));
        put(part, board, place, parts.get(part).length, false);
        cuttings++;
        return --parts.get(part).left;
    }

    int join(int part, int a, int placeA, int length, int b, int placeB) {
        index(part, parts.size());
        index(a, grades.size());
        index(b, grades.size());
        long other = (long) parts.get(part).length + joint - length;
        argument(length >= 50 && other >= 50);
        state(parts.get(part).left > 0 && parts.get(part).canBeJoined);
        state(isPossible(part, a, placeA, length));
        put(part, a, placeA, length, true);
        if (!isPossible(part, b, placeB, (int) other)) {
            all.remove(all.size() - 1);
            state(false);
        }
        put(part, b, placeB, (int) other, true);
        cuttings++;
        return --parts.get(part).left;
    }

    int undo() {
        state(!all.isEmpty());
        cuttings--;
        int part = -1;
        while (!all.isEmpty() && all.get(all.size() - 1).cutting == cuttings) {
            part = all.remove(all.size() - 1).part;
        }
        parts.get(part).left++;
        return part;
    }

    int plan() {
        int done = 0;
        while (planOne()) {
            done++;
        }
        return done;
    }

    private boolean planOne() {
        int chosen = -1;
        for (int i = 0; i < parts.size(); i++) {
            SlowPart part = parts.get(i);
            if (part.left == 0 || bestBoard(i) < 0) {
                continue;
            }
            if (chosen < 0 || part.length > parts.get(chosen).length
                || part.length == parts.get(chosen).length && part.grade < parts.get(chosen).grade) {
                chosen = i;
            }
        }
        if (chosen < 0) {
            return false;
        }
        int board = bestBoard(chosen);
        cut(chosen, board, earliest(chosen, board));
        return true;
    }

    private int bestBoard(int part) {
        int best = -1;
        int bestLeft = 0;
        for (int b = 0; b < grades.size(); b++) {
            int place = earliest(part, b);
            if (place < 0) {
                continue;
            }
            int over = roomAround(b, place) - parts.get(part).length;
            if (best < 0 || over < bestLeft) {
                best = b;
                bestLeft = over;
            }
        }
        return best;
    }

    /** The length of a part, for choosing how to join it; 0 if there is no such part. */
    int lengthOf(int part) {
        return part < 0 || part >= parts.size() ? 0 : parts.get(part).length;
    }

    int left(int part) {
        index(part, parts.size());
        return parts.get(part).left;
    }

    int pieces(int board) {
        index(board, grades.size());
        return of(board).size();
    }

    int piece(int board, int piece, int what) {
        index(board, grades.size());
        index(piece, of(board).size());
        index(what, 4);
        SlowPiece found = of(board).get(piece);
        return new int[] {found.part, found.from, found.to, found.isJoined ? 1 : 0}[what];
    }

    int cuts(int board) {
        index(board, grades.size());
        int count = 0;
        for (SlowPiece piece : of(board)) {
            count += piece.from == 0 ? 0 : 1;
            count += piece.to == grades.get(board).length ? 0 : 1;
            for (SlowPiece behind : of(board)) {
                count -= behind.from - piece.to == saw ? 1 : 0;
            }
        }
        return count;
    }

    int longestRoom(int board) {
        index(board, grades.size());
        int longest = 0;
        for (int p = 0; p < grades.get(board).length; p++) {
            if (isFree(board, p) && (p == 0 || !isFree(board, p - 1))) {
                longest = Math.max(longest, roomAround(board, p));
            }
        }
        return longest;
    }

    /** By which sums can be reached by which numbers of pieces. */
    int bestUse(int board, int grade, int length) {
        index(board, grades.size());
        argument(grade >= 0 && grade <= 3);
        argument(length >= 0 && length <= 3000);
        boolean[][] reached = new boolean[length / 20 + 2][length + 1];
        reached[0][0] = true;
        for (SlowPart part : parts) {
            for (int i = 0; i < part.left && part.width <= widths.get(board) && part.grade >= grade; i++) {
                for (int k = reached.length - 1; k >= 1; k--) {
                    for (int sum = length; sum >= part.length; sum--) {
                        reached[k][sum] |= reached[k - 1][sum - part.length];
                    }
                }
            }
        }
        int best = 0;
        for (int k = 1; k < reached.length; k++) {
            for (int sum = 0; sum + (k - 1) * saw <= length; sum++) {
                best = reached[k][sum] ? Math.max(best, sum) : best;
            }
        }
        return best;
    }

    double used() {
        long area = 0;
        long boardArea = 0;
        for (int b = 0; b < grades.size(); b++) {
            for (SlowPiece piece : of(b)) {
                area += (long) (piece.to - piece.from) * parts.get(piece.part).width;
            }
            boardArea += of(b).isEmpty() ? 0 : (long) grades.get(b).length * widths.get(b);
        }
        return boardArea == 0 ? 0 : (double) area / boardArea;
    }

    long digest() {
        List<Integer> told = new ArrayList<>(List.of(saw, joint, defects, parts.size()));
        parts.forEach(part -> told.add(part.left));
        told.add(grades.size());
        for (int b = 0; b < grades.size(); b++) {
            told.add(pieces(b));
            for (int i = 0; i < pieces(b); i++) {
                for (int what = 0; what < 4; what++) {
                    told.add(piece(b, i, what));
                }
            }
        }
        long d = 269;
        for (int x : told) {
            d = d * 31 + x;
        }
        return d;
    }

    private List<int[]> stretchList(int board, int grade) {
        List<int[]> found = new ArrayList<>();
        int[] row = grades.get(board);
        for (int p = 0; p < row.length; p++) {
            if (row[p] > grade) {
                continue;
            }
            if (p == 0 || row[p - 1] > grade) {
                found.add(new int[] {p, p});
            }
            found.get(found.size() - 1)[1] = p + 1;
        }
        return found;
    }

    private List<SlowPiece> of(int board) {
        List<SlowPiece> found = new ArrayList<>();
        for (SlowPiece piece : all) {
            if (piece.board == board) {
                found.add(piece);
            }
        }
        found.sort((x, y) -> Integer.compare(x.from, y.from));
        return found;
    }

    private boolean isPossible(int part, int board, int from, int length) {
        int[] row = grades.get(board);
        if (from < 0 || (long) from + length > row.length || parts.get(part).width > widths.get(board)) {
            return false;
        }
        for (int p = from; p < from + length; p++) {
            if (row[p] > parts.get(part).grade || !isFree(board, p)) {
                return false;
            }
        }
        return true;
    }

    private boolean isFree(int board, int place) {
        for (SlowPiece piece : all) {
            if (piece.board == board && place > piece.from - 1 - saw && place < piece.to + saw) {
                return false;
            }
        }
        return true;
    }

    private int roomAround(int board, int place) {
        int first = place;
        while (first > 0 && isFree(board, first - 1)) {
            first--;
        }
        int behind = place;
        while (behind < grades.get(board).length && isFree(board, behind)) {
            behind++;
        }
        return behind - first;
    }

    private void put(int part, int board, int from, int length, boolean isJoined) {
        SlowPiece piece = new SlowPiece();
        piece.part = part;
        piece.board = board;
        piece.from = from;
        piece.to = from + length;
        piece.isJoined = isJoined;
        piece.cutting = cuttings;
        all.add(piece);
    }

    private static void argument(boolean isRight) {
        if (!isRight) {
            throw new IllegalArgumentException();
        }
    }

    private static void state(boolean isRight) {
        if (!isRight) {
            throw new IllegalStateException();
        }
    }

    private static void index(int i, int count) {
        if (i < 0 || i >= count) {
            throw new IndexOutOfBoundsException();
        }
    }
}
