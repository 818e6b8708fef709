import java.util.ArrayList;

/** A list for cutting timber. */
public final class TimberList {
    private static final int MAX_BOARDS = 10;
    private static final int MIN_BOARD_LENGTH = 100;
    private static final int MAX_DEFECTS = 24;
    private static final int MAX_PARTS = 12;
    private static final int MIN_PART_LENGTH = 20;
    private static final int MAX_LENGTH = 3000;
    private static final int MIN_WIDTH = 10;
    private static final int MAX_WIDTH = 400;
    private static final int WORST_GRADE = 3;
    private static final int MAX_COUNT = 9;
    private static final int MAX_SAW = 10;
    private static final int MAX_JOINT = 50;
    private static final int MIN_JOINED_LENGTH = 50;
    private static final int LAST_WHAT = 3;
    private static final long DIGEST_START = 269;

    private final ArrayList<Board> boards = new ArrayList<>();
    private final ArrayList<Part> parts = new ArrayList<>();
    private final ArrayList<Part> planningOrder = new ArrayList<>();
    private final ArrayList<Cutting> cuttings = new ArrayList<>();
    private final int[] bestSums = new int[MAX_LENGTH + MAX_SAW + 1];
    private int defectCount = 0;
    private int saw = 3;
    private int joint = 10;

    public TimberList() {
    }

    // ---- boards and parts

    public int addBoard(int length, int width, int grade) throws IllegalArgumentException, IllegalStateException {
        if (!isWithin(length, MIN_BOARD_LENGTH, MAX_LENGTH) || !isWithin(width, MIN_WIDTH, MAX_WIDTH)
                || !isGrade(grade)) {
            throw new IllegalArgumentException(
                    "a board has a length of 100 to 3000, a width of 10 to 400, a grade of 0 to 3");
        }
        if (boards.size() >= MAX_BOARDS) {
            throw new IllegalStateException("there are 10 boards");
        }
        boards.add(new Board(length, width, grade));
        return boards.size() - 1;
    }

    public int addDefect(int board, int from, int to, int grade)
            throws IndexOutOfBoundsException, IllegalArgumentException, IllegalStateException {
        Board of = boardNumbered(board);
        if (from < 0 || to <= from || to > of.length || !isWithin(grade, 1, WORST_GRADE)) {
            throw new IllegalArgumentException("a defect is a row of places of its board, with a grade of 1 to 3");
        }
        if (defectCount >= MAX_DEFECTS) {
            throw new IllegalStateException("there are 24 defects");
        }
        if (of.hasPieceSpoiledBy(from, to, grade)) {
            throw new IllegalStateException("a piece would not be possible with the defect");
        }
        of.insertDefect(new Defect(from, to, grade));
        defectCount++;
        return defectCount;
    }

    public int addPart(int length, int width, int grade, int count, boolean canBeJoined)
            throws IllegalArgumentException, IllegalStateException {
        if (!isWithin(length, MIN_PART_LENGTH, MAX_LENGTH) || !isWithin(width, MIN_WIDTH, MAX_WIDTH)
                || !isGrade(grade) || !isWithin(count, 1, MAX_COUNT)) {
            throw new IllegalArgumentException(
                    "a part has a length of 20 to 3000, a width of 10 to 400, a grade of 0 to 3, a count of 1 to 9");
        }
        if (parts.size() >= MAX_PARTS) {
            throw new IllegalStateException("there are 12 parts");
        }
        Part part = new Part(parts.size(), length, width, grade, count, canBeJoined);
        parts.add(part);
        insertIntoPlanningOrder(part);
        return part.number;
    }

    public int setSaw(int width) throws IllegalArgumentException, IllegalStateException {
        if (!isWithin(width, 0, MAX_SAW)) {
            throw new IllegalArgumentException("the saw has a width of 0 to 10");
        }
        if (!cuttings.isEmpty()) {
            throw new IllegalStateException("there is a piece");
        }
        int before = saw;
        saw = width;
        return before;
    }

    public int setJoint(int length) throws IllegalArgumentException {
        if (!isWithin(length, 0, MAX_JOINT)) {
            throw new IllegalArgumentException("a joint takes a length of 0 to 50");
        }
        int before = joint;
        joint = length;
        return before;
    }

    public int grade(int board, int place) throws IndexOutOfBoundsException {
        Board of = boardNumbered(board);
        if (place < 0 || place >= of.length) {
            throw new IndexOutOfBoundsException("there is no such place");
        }
        return of.gradeAt(place);
    }

    public int stretches(int board, int grade) throws IndexOutOfBoundsException, IllegalArgumentException {
        Board of = boardNumbered(board);
        checkGrade(grade);
        return of.countStretches(grade);
    }

    public int stretch(int board, int grade, int stretch, boolean isEnd)
            throws IndexOutOfBoundsException, IllegalArgumentException {
        Board of = boardNumbered(board);
        checkGrade(grade);
        if (stretch < 0 || stretch >= of.countStretches(grade)) {
            throw new IllegalArgumentException("there is no such stretch");
        }
        int start = of.stretchStart(stretch, grade);
        return isEnd ? of.firstWorse(start, grade) : start;
    }

    // ---- cutting

    public boolean fits(int part, int board, int place) throws IndexOutOfBoundsException {
        Part wanted = partNumbered(part);
        return boardNumbered(board).canGive(wanted, place, wanted.length, saw);
    }

    public int earliest(int part, int board) throws IndexOutOfBoundsException {
        Part wanted = partNumbered(part);
        return boardNumbered(board).earliestPlace(wanted, saw);
    }

    public int cut(int part, int board, int place) throws IndexOutOfBoundsException, IllegalStateException {
        Part wanted = partNumbered(part);
        Board from = boardNumbered(board);
        if (wanted.left <= 0) {
            throw new IllegalStateException("the part is not left");
        }
        if (!from.canGive(wanted, place, wanted.length, saw)) {
            throw new IllegalStateException("the piece is not possible");
        }
        cutSingle(wanted, from, place);
        return wanted.left;
    }

    public int join(int part, int a, int placeA, int length, int b, int placeB)
            throws IndexOutOfBoundsException, IllegalArgumentException, IllegalStateException {
        Part wanted = partNumbered(part);
        Board boardA = boardNumbered(a);
        Board boardB = boardNumbered(b);
        int lengthB = wanted.length + joint - length;
        // A very small length would wrap lengthB around, so it is looked at first.
        if (length < MIN_JOINED_LENGTH || lengthB < MIN_JOINED_LENGTH) {
            throw new IllegalArgumentException("each of the two lengths is at least 50");
        }
        if (wanted.left <= 0 || !wanted.canBeJoined) {
            throw new IllegalStateException("the part is not left or may not be joined");
        }
        if (!boardA.canGive(wanted, placeA, length, saw) || !boardB.canGive(wanted, placeB, lengthB, saw)) {
            throw new IllegalStateException("a piece is not possible");
        }
        Piece first = new Piece(wanted, boardA, placeA, placeA + length, true);
        Piece second = new Piece(wanted, boardB, placeB, placeB + lengthB, true);
        if (boardA == boardB && !first.isClearOf(second.from, second.to, saw)) {
            throw new IllegalStateException("the pieces are not possible beside each other");
        }
        takeFromBoards(new Cutting(wanted, first, second));
        return wanted.left;
    }

    public int undo() throws IllegalStateException {
        if (cuttings.isEmpty()) {
            throw new IllegalStateException("there is no cut or joining");
        }
        Cutting latest = cuttings.remove(cuttings.size() - 1);
        latest.first.board.removePiece(latest.first);
        if (latest.second != null) {
            latest.second.board.removePiece(latest.second);
        }
        latest.part.left++;
        return latest.part.number;
    }

    public int plan() {
        int done = 0;
        // Planning only adds pieces, so a part that cannot be cut once cannot be cut later either:
        // one round through the parts is enough.
        for (int i = 0; i < planningOrder.size(); i++) {
            done += cutWhilePossible(planningOrder.get(i));
        }
        return done;
    }

    public int left(int part) throws IndexOutOfBoundsException {
        return partNumbered(part).left;
    }

    public int pieces(int board) throws IndexOutOfBoundsException {
        return boardNumbered(board).cutPieces.size();
    }

    public int piece(int board, int piece, int what) throws IndexOutOfBoundsException {
        ArrayList<Piece> cutPieces = boardNumbered(board).cutPieces;
        if (piece < 0 || piece >= cutPieces.size()) {
            throw new IndexOutOfBoundsException("there is no such piece");
        }
        if (!isWithin(what, 0, LAST_WHAT)) {
            throw new IndexOutOfBoundsException("what is 0 to 3");
        }
        return cutPieces.get(piece).tell(what);
    }

    // ---- what comes of it

    public int cuts(int board) throws IndexOutOfBoundsException {
        return boardNumbered(board).countCuts(saw);
    }

    public int longestRoom(int board) throws IndexOutOfBoundsException {
        return boardNumbered(board).longestRoomLength(saw);
    }

    public int bestUse(int board, int grade, int length) throws IndexOutOfBoundsException, IllegalArgumentException {
        Board of = boardNumbered(board);
        checkGrade(grade);
        if (!isWithin(length, 0, MAX_LENGTH)) {
            throw new IllegalArgumentException("a row has a length of 0 to 3000");
        }
        // The last piece needs no saw behind it: with one more width at the row's end every piece takes one.
        int space = Math.min(length + saw, bestSums.length - 1);
        clearBestSums();
        for (int i = 0; i < parts.size(); i++) {
            Part part = parts.get(i);
            if (part.width <= of.width && part.grade >= grade) {
                addToBestSums(part, space);
            }
        }
        return bestSums[space];
    }

    public double used() {
        int usedArea = 0;
        int boardArea = 0;
        for (int i = 0; i < boards.size(); i++) {
            Board board = boards.get(i);
            if (!board.cutPieces.isEmpty()) {
                usedArea += board.areaOfPieces();
                boardArea += board.length * board.width;
            }
        }
        return boardArea == 0 ? 0.0 : (double) usedArea / (double) boardArea;
    }

    public long digest() {
        long d = DIGEST_START;
        d = withNext(d, saw);
        d = withNext(d, joint);
        d = withNext(d, defectCount);
        d = withNext(d, parts.size());
        for (int i = 0; i < parts.size(); i++) {
            d = withNext(d, parts.get(i).left);
        }
        d = withNext(d, boards.size());
        for (int i = 0; i < boards.size(); i++) {
            d = withPieces(d, boards.get(i).cutPieces);
        }
        return d;
    }

    // ---- looking at arguments

    private static boolean isWithin(int value, int least, int greatest) {
        return value >= least && value <= greatest;
    }

    private static boolean isGrade(int grade) {
        return isWithin(grade, 0, WORST_GRADE);
    }

    private static void checkGrade(int grade) {
        if (!isGrade(grade)) {
            throw new IllegalArgumentException("a grade is 0 to 3");
        }
    }

    private Board boardNumbered(int board) {
        if (board < 0 || board >= boards.size()) {
            throw new IndexOutOfBoundsException("there is no such board");
        }
        return boards.get(board);
    }

    private Part partNumbered(int part) {
        if (part < 0 || part >= parts.size()) {
            throw new IndexOutOfBoundsException("there is no such part");
        }
        return parts.get(part);
    }

    // ---- planning and cutting

    private void insertIntoPlanningOrder(Part part) {
        int at = 0;
        while (at < planningOrder.size() && !part.isPlannedAhead(planningOrder.get(at))) {
            at++;
        }
        planningOrder.add(at, part);
    }

    private int cutWhilePossible(Part part) {
        int done = 0;
        for (int wanted = part.left; wanted > 0; wanted--) {
            Board board = tightestBoard(part);
            if (board == null) {
                break;
            }
            cutSingle(part, board, board.earliestPlace(part, saw));
            done++;
        }
        return done;
    }

    /** The board with the shortest free room round the part's earliest place; null if no board can give the part. */
    private Board tightestBoard(Part part) {
        Board tightest = null;
        int shortest = 0;
        for (int i = 0; i < boards.size(); i++) {
            Board board = boards.get(i);
            int place = board.earliestPlace(part, saw);
            if (place < 0) {
                continue;
            }
            int room = board.roomLengthAround(place, saw);
            if (tightest == null || room < shortest) {
                tightest = board;
                shortest = room;
            }
        }
        return tightest;
    }

    private void cutSingle(Part part, Board board, int place) {
        takeFromBoards(new Cutting(part, new Piece(part, board, place, place + part.length, false), null));
    }

    private void takeFromBoards(Cutting cutting) {
        cutting.first.board.insertPiece(cutting.first);
        if (cutting.second != null) {
            cutting.second.board.insertPiece(cutting.second);
        }
        cutting.part.left--;
        cuttings.add(cutting);
    }

    // ---- sums

    private void clearBestSums() {
        for (int i = 0; i < bestSums.length; i++) {
            bestSums[i] = 0;
        }
    }

    private void addToBestSums(Part part, int space) {
        int taken = part.length + saw;
        for (int copy = 0; copy < part.left; copy++) {
            // From the end on, so that one copy is not counted twice.
            for (int i = space; i >= taken; i--) {
                bestSums[i] = Math.max(bestSums[i], bestSums[i - taken] + part.length);
            }
        }
    }

    private static long withNext(long d, long x) {
        return d * 31 + x;
    }

    private static long withPieces(long before, ArrayList<Piece> cutPieces) {
        long d = withNext(before, cutPieces.size());
        for (int i = 0; i < cutPieces.size(); i++) {
            for (int what = 0; what <= LAST_WHAT; what++) {
                d = withNext(d, cutPieces.get(i).tell(what));
            }
        }
        return d;
    }

    /** A part, and how often it is left. */
    private static final class Part {
        private final int number;
        private final int length;
        private final int width;
        private final int grade;
        private final boolean canBeJoined;
        private int left;

        private Part(int number, int length, int width, int grade, int count, boolean canBeJoined) {
            this.number = number;
            this.length = length;
            this.width = width;
            this.grade = grade;
            this.canBeJoined = canBeJoined;
            this.left = count;
        }

        /** Whether planning looks at this part ahead of one with a smaller number. */
        private boolean isPlannedAhead(Part older) {
            return length > older.length || length == older.length && grade < older.grade;
        }
    }

    /** A defect of a board, from a place on, ahead of another one. */
    private static final class Defect {
        private final int from;
        private final int to;
        private final int grade;

        private Defect(int from, int to, int grade) {
            this.from = from;
            this.to = to;
            this.grade = grade;
        }
    }

    /** A piece of a part, from a place of a board on, ahead of another one. */
    private static final class Piece {
        private final Part part;
        private final Board board;
        private final int from;
        private final int to;
        private final boolean isJoined;

        private Piece(Part part, Board board, int from, int to, boolean isJoined) {
            this.part = part;
            this.board = board;
            this.from = from;
            this.to = to;
            this.isJoined = isJoined;
        }

        /** Whether a row of places of the same board is at least the width of the saw away. */
        private boolean isClearOf(int start, int end, int saw) {
            return end + saw <= from || to + saw <= start;
        }

        private int tell(int what) {
            switch (what) {
                case 0:
                    return part.number;
                case 1:
                    return from;
                case 2:
                    return to;
                default:
                    return isJoined ? 1 : 0;
            }
        }
    }

    /** What one cut or one joining took: one piece of a part, or two (the second is null if there is one). */
    private static final class Cutting {
        private final Part part;
        private final Piece first;
        private final Piece second;

        private Cutting(Part part, Piece first, Piece second) {
            this.part = part;
            this.first = first;
            this.second = second;
        }
    }

    /** A board with its defects and its pieces, both in ascending order of their first places. */
    private static final class Board {
        private final int length;
        private final int width;
        private final int grade;
        private final ArrayList<Defect> defects = new ArrayList<>();
        private final ArrayList<Piece> cutPieces = new ArrayList<>();

        private Board(int length, int width, int grade) {
            this.length = length;
            this.width = width;
            this.grade = grade;
        }

        private void insertDefect(Defect defect) {
            int at = 0;
            while (at < defects.size() && defects.get(at).from <= defect.from) {
                at++;
            }
            defects.add(at, defect);
        }

        private void insertPiece(Piece piece) {
            int at = 0;
            while (at < cutPieces.size() && cutPieces.get(at).from < piece.from) {
                at++;
            }
            cutPieces.add(at, piece);
        }

        private void removePiece(Piece piece) {
            for (int i = 0; i < cutPieces.size(); i++) {
                if (cutPieces.get(i) == piece) {
                    cutPieces.remove(i);
                    return;
                }
            }
        }

        private boolean hasPieceSpoiledBy(int from, int to, int defectGrade) {
            for (int i = 0; i < cutPieces.size(); i++) {
                Piece piece = cutPieces.get(i);
                if (piece.from < to && from < piece.to && defectGrade > piece.part.grade) {
                    return true;
                }
            }
            return false;
        }

        private int gradeAt(int place) {
            int worst = grade;
            for (int i = 0; i < defects.size(); i++) {
                Defect defect = defects.get(i);
                if (defect.from <= place && place < defect.to) {
                    worst = Math.max(worst, defect.grade);
                }
            }
            return worst;
        }

        /** The first place from a place on whose grade is greater than a limit; the length if there is none. */
        private int firstWorse(int place, int limit) {
            if (grade > limit) {
                return place;
            }
            for (int i = 0; i < defects.size(); i++) {
                Defect defect = defects.get(i);
                if (defect.grade > limit && defect.to > place) {
                    return Math.max(defect.from, place);
                }
            }
            return length;
        }

        /** The first place from a place on whose grade is not greater than a limit; the length if there is none. */
        private int firstGood(int place, int limit) {
            if (grade > limit) {
                return length;
            }
            int good = place;
            for (int i = 0; i < defects.size(); i++) {
                Defect defect = defects.get(i);
                if (defect.grade > limit && defect.from <= good && good < defect.to) {
                    good = defect.to;
                }
            }
            return good;
        }

        private int nextStretchStart(int start, int limit) {
            return firstGood(firstWorse(start, limit), limit);
        }

        private int countStretches(int limit) {
            int count = 0;
            int start = firstGood(0, limit);
            // Between two stretches lies at least one defect.
            while (start < length && count <= defects.size()) {
                count++;
                start = nextStretchStart(start, limit);
            }
            return count;
        }

        private int stretchStart(int stretch, int limit) {
            int start = firstGood(0, limit);
            for (int i = 0; i < stretch && start < length; i++) {
                start = nextStretchStart(start, limit);
            }
            return start;
        }

        /** Whether a piece of a part is possible, from a place on. */
        private boolean canGive(Part part, int from, int pieceLength, int saw) {
            // The place is looked at first: behind it, from + pieceLength cannot wrap around.
            return from >= 0 && from <= length - pieceLength
                    && part.width <= width
                    && firstWorse(from, part.grade) >= from + pieceLength
                    && isClearOfPieces(from, from + pieceLength, saw);
        }

        private boolean isClearOfPieces(int from, int to, int saw) {
            for (int i = 0; i < cutPieces.size(); i++) {
                if (!cutPieces.get(i).isClearOf(from, to, saw)) {
                    return false;
                }
            }
            return true;
        }

        /** The earliest place at which a part can be cut as one piece; -1 if there is none. */
        private int earliestPlace(Part part, int saw) {
            if (part.width > width || part.grade < grade) {
                return -1;
            }
            for (int room = 0; room <= cutPieces.size(); room++) {
                int place = earliestWithin(roomStart(room, saw), roomEnd(room, saw), part);
                if (place >= 0) {
                    return place;
                }
            }
            return -1;
        }

        private int earliestWithin(int roomStart, int roomEnd, Part part) {
            int place = roomStart;
            // Each round but the last one passes a defect.
            for (int round = 0; round <= defects.size() && place + part.length <= roomEnd; round++) {
                int worse = firstWorse(place, part.grade);
                if (worse >= place + part.length) {
                    return place;
                }
                place = firstGood(worse, part.grade);
            }
            return -1;
        }

        /** Where the room ahead of the piece with this number begins; behind the last piece is one more room. */
        private int roomStart(int room, int saw) {
            return room < 1 || room > cutPieces.size() ? 0 : cutPieces.get(room - 1).to + saw;
        }

        /** The place behind the room: if that is not greater than the room's start, there is no room. */
        private int roomEnd(int room, int saw) {
            return room < 0 || room >= cutPieces.size() ? length : cutPieces.get(room).from - saw;
        }

        private int roomLengthAround(int place, int saw) {
            for (int room = 0; room <= cutPieces.size(); room++) {
                int start = roomStart(room, saw);
                int end = roomEnd(room, saw);
                if (start <= place && place < end) {
                    return end - start;
                }
            }
            return 0;
        }

        private int longestRoomLength(int saw) {
            int longest = 0;
            for (int room = 0; room <= cutPieces.size(); room++) {
                longest = Math.max(longest, roomEnd(room, saw) - roomStart(room, saw));
            }
            return longest;
        }

        private int countCuts(int saw) {
            int count = 0;
            for (int i = 0; i < cutPieces.size(); i++) {
                Piece piece = cutPieces.get(i);
                if (piece.from > 0 && !(i > 0 && piece.from - cutPieces.get(i - 1).to == saw)) {
                    count++;
                }
                if (piece.to < length) {
                    count++;
                }
            }
            return count;
        }

        private int areaOfPieces() {
            int area = 0;
            for (int i = 0; i < cutPieces.size(); i++) {
                Piece piece = cutPieces.get(i);
                area += (piece.to - piece.from) * piece.part.width;
            }
            return area;
        }
    }
}
