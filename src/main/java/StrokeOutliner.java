/**
 * A stroke outliner in fixed point. The document ../shared/DOC.md tells what each public method promises;
 * this face checks the arguments, saves the state for undo, and leaves the rest to the classes inside.
 */
public final class StrokeOutliner {
    public static final int NONE = -1;

    private static final int MAX_SUBPATHS = 4;
    private static final int MAX_POINTS = 8;
    private static final int MAX_SEGMENTS = MAX_SUBPATHS * MAX_POINTS;
    private static final int MAX_DASHES = 6;
    private static final int MAX_COORDINATE = 100;
    private static final int MAX_SHIFT = 200;
    private static final int MAX_PLACE = 20000;
    private static final int MAX_GRID = 20;
    private static final int MAX_BYTE = 127;

    /** A path coordinate is so many units of all other lengths. */
    private static final int UNIT = 64;

    private final Drawing drawing = new Drawing();
    /** A text is read into the draft, so that a fault in it leaves the drawing as it was. */
    private final Drawing draft = new Drawing();
    private final History history = new History();
    private final PathText text = new PathText();
    private final PathWriter writer = new PathWriter();
    private final Stroke stroke = new Stroke();
    private final Grid grid = new Grid();

    public StrokeOutliner() {
    }

    // ---- paths

    public int moveTo(int x, int y) throws IllegalArgumentException, IllegalStateException {
        checkRange(x, -MAX_COORDINATE, MAX_COORDINATE);
        checkRange(y, -MAX_COORDINATE, MAX_COORDINATE);
        checkState(drawing.subpathCount() < MAX_SUBPATHS);
        saveState();
        drawing.startSubpath(x, y);
        return drawing.lastSubpath();
    }

    public int lineTo(int x, int y) throws IllegalArgumentException, IllegalStateException {
        checkRange(x, -MAX_COORDINATE, MAX_COORDINATE);
        checkRange(y, -MAX_COORDINATE, MAX_COORDINATE);
        int last = drawing.lastSubpath();
        checkState(last >= 0 && !drawing.isClosed(last) && drawing.pointCount(last) < MAX_POINTS);
        saveState();
        drawing.addPoint(x, y);
        return drawing.pointCount(last);
    }

    public int close() throws IllegalStateException {
        int last = drawing.lastSubpath();
        checkState(last >= 0 && !drawing.isClosed(last));
        saveState();
        drawing.closeLast();
        return stroke.measured(drawing).countOf(last);
    }

    public int remove(int subpath) throws IndexOutOfBoundsException {
        checkIndex(subpath, drawing.subpathCount());
        saveState();
        drawing.dropSubpath(subpath);
        return drawing.subpathCount();
    }

    public int reverse(int subpath) throws IndexOutOfBoundsException {
        checkIndex(subpath, drawing.subpathCount());
        saveState();
        drawing.turnAround(subpath);
        return drawing.pointCount(subpath);
    }

    public int simplify(int subpath) throws IndexOutOfBoundsException {
        checkIndex(subpath, drawing.subpathCount());
        saveState();
        return drawing.dropIdlePoints(subpath);
    }

    public int transform(int quarters, int dx, int dy) throws IllegalArgumentException, IllegalStateException {
        checkRange(quarters, 0, 3);
        checkRange(dx, -MAX_SHIFT, MAX_SHIFT);
        checkRange(dy, -MAX_SHIFT, MAX_SHIFT);
        checkState(drawing.canMove(quarters, dx, dy));
        saveState();
        return drawing.move(quarters, dx, dy);
    }

    public int subpaths() {
        return drawing.subpathCount();
    }

    public int subpath(int subpath, int what) throws IndexOutOfBoundsException, IllegalArgumentException {
        checkIndex(subpath, drawing.subpathCount());
        checkRange(what, 0, 3);
        return aboutSubpath(subpath, what);
    }

    public int point(int subpath, int point, boolean y) throws IndexOutOfBoundsException {
        checkIndex(subpath, drawing.subpathCount());
        checkIndex(point, drawing.pointCount(subpath));
        return y ? drawing.yOf(subpath, point) : drawing.xOf(subpath, point);
    }

    public int pointAt(int subpath, int distance, boolean y)
            throws IndexOutOfBoundsException, IllegalArgumentException {
        checkIndex(subpath, drawing.subpathCount());
        Segments segments = stroke.measured(drawing);
        checkRange(distance, 0, segments.lengthOf(subpath));
        int segment = segments.segmentAt(subpath, distance);
        if (segment == NONE) {
            return UNIT * (y ? drawing.yOf(subpath, 0) : drawing.xOf(subpath, 0));
        }
        int passed = distance - segments.startOf(subpath, segment);
        return y ? segments.yAt(segment, passed) : segments.xAt(segment, passed);
    }

    // ---- style

    public int setStyle(int width, int join, int limit, int cap) throws IllegalArgumentException {
        checkRange(width, 1, 40);
        checkRange(join, 0, 2);
        checkRange(limit, 1, 10);
        checkRange(cap, 0, 2);
        saveState();
        int previous = drawing.cell(Drawing.WIDTH);
        drawing.put(Drawing.WIDTH, width);
        drawing.put(Drawing.JOIN, join);
        drawing.put(Drawing.LIMIT, limit);
        drawing.put(Drawing.CAP, cap);
        return previous;
    }

    public int setDashes(int phase, boolean continues) throws IllegalArgumentException {
        checkRange(phase, 0, 600);
        saveState();
        int previous = drawing.cell(Drawing.DASHES);
        drawing.put(Drawing.PHASE, phase);
        drawing.put(Drawing.CONTINUES, continues ? 1 : 0);
        drawing.put(Drawing.DASHES, 0);
        return previous;
    }

    public int addDash(int length) throws IllegalArgumentException, IllegalStateException {
        checkRange(length, 5, 100);
        int count = drawing.cell(Drawing.DASHES);
        checkState(count < MAX_DASHES);
        saveState();
        drawing.put(Drawing.FIRST_DASH + count, length);
        drawing.put(Drawing.DASHES, count + 1);
        return count + 1;
    }

    // ---- runs

    public int runs(int subpath) throws IndexOutOfBoundsException {
        checkIndex(subpath, drawing.subpathCount());
        return stroke.walked(drawing).countOf(subpath);
    }

    public int run(int subpath, int run, int what) throws IndexOutOfBoundsException, IllegalArgumentException {
        checkIndex(subpath, drawing.subpathCount());
        Runs runs = stroke.walked(drawing);
        checkIndex(run, runs.countOf(subpath));
        checkRange(what, 0, 3);
        return runs.about(runs.firstOf(subpath) + run, what);
    }

    public int dashed(boolean on) {
        int inRuns = stroke.walked(drawing).totalLength();
        return on ? inRuns : stroke.measured(drawing).totalLength() - inRuns;
    }

    // ---- pieces

    public int pieces(int kind) throws IllegalArgumentException {
        checkRange(kind, NONE, Pieces.SQUARE);
        Pieces pieces = stroke.outlined(drawing);
        return kind == NONE ? pieces.size() : pieces.countOf(kind);
    }

    public long piece(int piece, int what) throws IndexOutOfBoundsException, IllegalArgumentException {
        Pieces pieces = stroke.outlined(drawing);
        checkIndex(piece, pieces.size());
        checkRange(what, 0, 2);
        if (what == 0) {
            return pieces.kindOf(piece);
        }
        return what == 1 ? pieces.cornerCount(piece) : pieces.doubleArea(piece);
    }

    public int corner(int piece, int corner, boolean y) throws IndexOutOfBoundsException {
        Pieces pieces = stroke.outlined(drawing);
        checkIndex(piece, pieces.size());
        checkIndex(corner, pieces.cornerCount(piece));
        return y ? pieces.cornerY(piece, corner) : pieces.cornerX(piece, corner);
    }

    public int bounds(int side) throws IllegalArgumentException, IllegalStateException {
        checkRange(side, Pieces.LEFT, Pieces.GREATEST_Y);
        Pieces pieces = stroke.outlined(drawing);
        checkState(pieces.size() > 0);
        return pieces.edgeOfAll(side);
    }

    // ---- covering

    public int covering(int x, int y) throws IllegalArgumentException {
        checkRange(x, -MAX_PLACE, MAX_PLACE);
        checkRange(y, -MAX_PLACE, MAX_PLACE);
        return stroke.outlined(drawing).countAround(x, y);
    }

    public int covered(int x, int y, int width, int height) throws IllegalArgumentException {
        checkRange(x, -MAX_COORDINATE, MAX_COORDINATE);
        checkRange(y, -MAX_COORDINATE, MAX_COORDINATE);
        checkRange(width, 0, MAX_GRID);
        checkRange(height, 0, MAX_GRID);
        return grid.countMarked(stroke.outlined(drawing), x, y, width, height);
    }

    public int nearest(int x, int y) throws IllegalArgumentException {
        checkRange(x, -MAX_COORDINATE, MAX_COORDINATE);
        checkRange(y, -MAX_COORDINATE, MAX_COORDINATE);
        return drawing.leastSquare(x, y);
    }

    // ---- text

    public int append(int value) throws IllegalArgumentException, IllegalStateException {
        checkRange(value, 0, MAX_BYTE);
        checkState(!text.isFull());
        text.add(value);
        return text.length();
    }

    public int clearText() {
        int previous = text.length();
        text.empty();
        return previous;
    }

    public int parse() {
        int fault = text.readPath(draft);
        if (fault != NONE) {
            return -10 - fault;
        }
        saveState();
        drawing.takePath(draft);
        return drawing.subpathCount();
    }

    public int written(int index) throws IllegalArgumentException {
        if (index < 0) {
            throw new IllegalArgumentException("the index is negative");
        }
        return writer.byteOf(drawing, index);
    }

    // ---- state

    public int undo() throws IllegalStateException {
        checkState(history.size() > 0);
        stroke.forget();
        history.bringBack(drawing);
        return history.size();
    }

    public long digest() {
        Pieces pieces = stroke.outlined(drawing);
        long hash = mix(2903, text.length());
        hash = mixStyle(hash);
        hash = mix(hash, drawing.subpathCount());
        for (int subpath = 0; subpath < drawing.subpathCount(); subpath++) {
            hash = mixSubpath(hash, subpath);
            hash = mixRuns(hash, subpath);
        }
        hash = mix(hash, pieces.size());
        for (int piece = 0; piece < pieces.size(); piece++) {
            hash = mixPiece(hash, pieces, piece);
        }
        return mix(hash, history.size());
    }

    private static long mix(long hash, long value) {
        return 31 * hash + value;
    }

    /** The cells of the style stand in the order in which the digest wants them. */
    private long mixStyle(long hash) {
        long mixed = hash;
        int end = Drawing.FIRST_DASH + drawing.cell(Drawing.DASHES);
        for (int cell = Drawing.WIDTH; cell < end; cell++) {
            mixed = mix(mixed, drawing.cell(cell));
        }
        return mixed;
    }

    private long mixSubpath(long hash, int subpath) {
        long mixed = hash;
        for (int what = 0; what <= 3; what++) {
            mixed = mix(mixed, aboutSubpath(subpath, what));
        }
        for (int point = 0; point < drawing.pointCount(subpath); point++) {
            mixed = mix(mixed, drawing.xOf(subpath, point));
            mixed = mix(mixed, drawing.yOf(subpath, point));
        }
        return mixed;
    }

    private long mixRuns(long hash, int subpath) {
        Runs runs = stroke.walked(drawing);
        long mixed = mix(hash, runs.countOf(subpath));
        for (int run = 0; run < runs.countOf(subpath); run++) {
            for (int what = 0; what <= 3; what++) {
                mixed = mix(mixed, runs.about(runs.firstOf(subpath) + run, what));
            }
        }
        return mixed;
    }

    private static long mixPiece(long hash, Pieces pieces, int piece) {
        long mixed = mix(hash, pieces.kindOf(piece));
        for (int corner = 0; corner < pieces.cornerCount(piece); corner++) {
            mixed = mix(mixed, pieces.cornerX(piece, corner));
            mixed = mix(mixed, pieces.cornerY(piece, corner));
        }
        return mixed;
    }

    private int aboutSubpath(int subpath, int what) {
        if (what == 0) {
            return drawing.pointCount(subpath);
        }
        if (what == 1) {
            return drawing.isClosed(subpath) ? 1 : 0;
        }
        Segments segments = stroke.measured(drawing);
        return what == 2 ? segments.countOf(subpath) : segments.lengthOf(subpath);
    }

    /** Each undoable call comes here once it can no longer fail, and before it changes the drawing. */
    private void saveState() {
        history.keep(drawing);
        stroke.forget();
    }

    private static void checkRange(int value, int least, int greatest) {
        if (value < least || value > greatest) {
            throw new IllegalArgumentException("an argument is out of range");
        }
    }

    private static void checkIndex(int index, int count) {
        if (index < 0 || index >= count) {
            throw new IndexOutOfBoundsException("there is no such thing");
        }
    }

    private static void checkState(boolean allowed) {
        if (!allowed) {
            throw new IllegalStateException("the state does not allow this");
        }
    }

    /** Exact arithmetic of whole numbers, and the reading of rows. */
    private static final class Numbers {
        /** The greatest whole number whose square is at most the value; a segment's length stays far below 2^16. */
        static int root(long value) {
            int root = 0;
            for (int bit = 1 << 15; bit > 0; bit >>= 1) {
                long tried = root + bit;
                if (tried * tried <= value) {
                    root += bit;
                }
            }
            return root;
        }

        /** The nearest whole number to p / q, the greater one of two. */
        static int round(long p, long q) {
            long divisor = 2 * q;
            if (divisor <= 0) {
                return 0;
            }
            long dividend = 2 * p + q;
            long quotient = dividend / divisor;
            return (int) (dividend % divisor < 0 ? quotient - 1 : quotient);
        }

        static int at(int[] row, int index) {
            return index >= 0 && index < row.length ? row[index] : 0;
        }
    }

    /** Style and path, all that undo restores, in one row of cells, so that a state is saved by one copy. */
    private static final class Drawing {
        static final int WIDTH = 0;
        static final int JOIN = 1;
        static final int LIMIT = 2;
        static final int CAP = 3;
        static final int PHASE = 4;
        static final int CONTINUES = 5;
        static final int DASHES = 6;
        static final int FIRST_DASH = 7;
        static final int SUBPATHS = FIRST_DASH + MAX_DASHES;
        static final int FIRST_SUBPATH = SUBPATHS + 1;

        /** What the cells of one subpath are, counted from its first cell. */
        static final int POINTS = 0;
        static final int CLOSED = 1;
        static final int FIRST_POINT = 2;
        static final int SUBPATH_SIZE = FIRST_POINT + 2 * MAX_POINTS;

        static final int SIZE = FIRST_SUBPATH + MAX_SUBPATHS * SUBPATH_SIZE;

        private final int[] cells = new int[SIZE];

        Drawing() {
            cells[WIDTH] = 4;
            cells[LIMIT] = 4;
        }

        int cell(int index) {
            return index >= 0 && index < cells.length ? cells[index] : 0;
        }

        void put(int index, int value) {
            if (index >= 0 && index < cells.length) {
                cells[index] = value;
            }
        }

        void copyTo(int[] row, int at) {
            if (at >= 0 && at <= row.length - SIZE) {
                System.arraycopy(cells, 0, row, at, SIZE);
            }
        }

        void copyFrom(int[] row, int at) {
            if (at >= 0 && at <= row.length - SIZE) {
                System.arraycopy(row, at, cells, 0, SIZE);
            }
        }

        void takePath(Drawing other) {
            System.arraycopy(other.cells, SUBPATHS, cells, SUBPATHS, SIZE - SUBPATHS);
        }

        int halfWidth() {
            return UNIT / 2 * cell(WIDTH);
        }

        int subpathCount() {
            return cell(SUBPATHS);
        }

        int lastSubpath() {
            return cell(SUBPATHS) - 1;
        }

        int pointCount(int subpath) {
            return subpath < cell(SUBPATHS) ? cell(cellOf(subpath) + POINTS) : 0;
        }

        boolean isClosed(int subpath) {
            return subpath < cell(SUBPATHS) && cell(cellOf(subpath) + CLOSED) == 1;
        }

        int xOf(int subpath, int point) {
            return cell(pointCell(subpath, point));
        }

        int yOf(int subpath, int point) {
            return cell(pointCell(subpath, point) + 1);
        }

        void clearPath() {
            put(SUBPATHS, 0);
        }

        void startSubpath(int x, int y) {
            int subpath = subpathCount();
            put(SUBPATHS, subpath + 1);
            put(cellOf(subpath) + POINTS, 0);
            put(cellOf(subpath) + CLOSED, 0);
            addPoint(x, y);
        }

        void addPoint(int x, int y) {
            int subpath = lastSubpath();
            int points = pointCount(subpath);
            putPoint(subpath, points, x, y);
            put(cellOf(subpath) + POINTS, points + 1);
        }

        void closeLast() {
            put(cellOf(lastSubpath()) + CLOSED, 1);
        }

        void dropSubpath(int subpath) {
            int last = lastSubpath();
            for (int cell = cellOf(subpath); cell < cellOf(last); cell++) {
                put(cell, cell(cell + SUBPATH_SIZE));
            }
            put(SUBPATHS, last);
        }

        void turnAround(int subpath) {
            int low = 0;
            for (int high = pointCount(subpath) - 1; high > low; high--) {
                int x = xOf(subpath, low);
                int y = yOf(subpath, low);
                putPoint(subpath, low, xOf(subpath, high), yOf(subpath, high));
                putPoint(subpath, high, x, y);
                low++;
            }
        }

        /** Returns how many points it has dropped. */
        int dropIdlePoints(int subpath) {
            for (int dropped = 0; dropped < MAX_POINTS; dropped++) {
                int point = firstIdlePoint(subpath);
                if (point == NONE) {
                    return dropped;
                }
                dropPoint(subpath, point);
            }
            return MAX_POINTS;
        }

        private int firstIdlePoint(int subpath) {
            for (int point = 0; point < pointCount(subpath); point++) {
                if (isIdle(subpath, point)) {
                    return point;
                }
            }
            return NONE;
        }

        private boolean isIdle(int subpath, int point) {
            int points = pointCount(subpath);
            boolean closed = isClosed(subpath);
            if (points < 2 || point == 0 && !closed) {
                return false;
            }
            int before = point > 0 ? point - 1 : points - 1;
            if (xOf(subpath, before) == xOf(subpath, point) && yOf(subpath, before) == yOf(subpath, point)) {
                return true;
            }
            int behind = point < points - 1 ? point + 1 : 0;
            return (behind > 0 || closed) && isBetween(subpath, before, point, behind);
        }

        private boolean isBetween(int subpath, int before, int point, int behind) {
            int x1 = xOf(subpath, before);
            int y1 = yOf(subpath, before);
            int x2 = xOf(subpath, behind);
            int y2 = yOf(subpath, behind);
            int x = xOf(subpath, point);
            int y = yOf(subpath, point);
            return (x2 - x1) * (y - y1) == (y2 - y1) * (x - x1)
                    && x >= Math.min(x1, x2) && x <= Math.max(x1, x2)
                    && y >= Math.min(y1, y2) && y <= Math.max(y1, y2);
        }

        private void dropPoint(int subpath, int point) {
            int points = pointCount(subpath);
            for (int i = point; i < points - 1; i++) {
                putPoint(subpath, i, xOf(subpath, i + 1), yOf(subpath, i + 1));
            }
            put(cellOf(subpath) + POINTS, points - 1);
        }

        boolean canMove(int quarters, int dx, int dy) {
            for (int subpath = 0; subpath < subpathCount(); subpath++) {
                for (int point = 0; point < pointCount(subpath); point++) {
                    int x = turnedX(xOf(subpath, point), yOf(subpath, point), quarters) + dx;
                    int y = turnedY(xOf(subpath, point), yOf(subpath, point), quarters) + dy;
                    if (Math.max(Math.abs(x), Math.abs(y)) > MAX_COORDINATE) {
                        return false;
                    }
                }
            }
            return true;
        }

        /** Returns how many points there are. */
        int move(int quarters, int dx, int dy) {
            int moved = 0;
            int subpaths = subpathCount();
            for (int subpath = 0; subpath < subpaths; subpath++) {
                int points = pointCount(subpath);
                for (int point = 0; point < points; point++) {
                    int x = turnedX(xOf(subpath, point), yOf(subpath, point), quarters);
                    int y = turnedY(xOf(subpath, point), yOf(subpath, point), quarters);
                    putPoint(subpath, point, x + dx, y + dy);
                    moved++;
                }
            }
            return moved;
        }

        private static int turnedX(int x, int y, int quarters) {
            int along = (quarters & 1) == 0 ? x : -y;
            return quarters < 2 ? along : -along;
        }

        private static int turnedY(int x, int y, int quarters) {
            int along = (quarters & 1) == 0 ? y : x;
            return quarters < 2 ? along : -along;
        }

        /** Returns the square of the distance of the nearest point, or NONE. */
        int leastSquare(int x, int y) {
            int least = NONE;
            for (int subpath = 0; subpath < subpathCount(); subpath++) {
                for (int point = 0; point < pointCount(subpath); point++) {
                    int dx = xOf(subpath, point) - x;
                    int dy = yOf(subpath, point) - y;
                    int square = dx * dx + dy * dy;
                    least = least == NONE ? square : Math.min(least, square);
                }
            }
            return least;
        }

        private void putPoint(int subpath, int point, int x, int y) {
            put(pointCell(subpath, point), x);
            put(pointCell(subpath, point) + 1, y);
        }

        private static int cellOf(int subpath) {
            return FIRST_SUBPATH + subpath * SUBPATH_SIZE;
        }

        private static int pointCell(int subpath, int point) {
            return FIRST_SUBPATH + subpath * SUBPATH_SIZE + FIRST_POINT + 2 * point;
        }
    }

    /** The saved states, the oldest one first. */
    private static final class History {
        private static final int MAX_STATES = 4;

        private final int[] rows = new int[MAX_STATES * Drawing.SIZE];
        private int count;

        int size() {
            return count;
        }

        void keep(Drawing drawing) {
            if (count == MAX_STATES) {
                System.arraycopy(rows, Drawing.SIZE, rows, 0, (MAX_STATES - 1) * Drawing.SIZE);
                count--;
            }
            drawing.copyTo(rows, count * Drawing.SIZE);
            count++;
        }

        void bringBack(Drawing drawing) {
            if (count > 0) {
                count--;
                drawing.copyFrom(rows, count * Drawing.SIZE);
            }
        }
    }

    /** The bytes of the path text, and the reading of a path from them, up to the first fault. */
    private static final class PathText {
        private static final int MAX_LENGTH = 150;

        private final int[] bytes = new int[MAX_LENGTH];
        private int length;
        /** Where the reading stands, and the position of the fault, or NONE. */
        private int at;
        private int fault;
        private int readX;
        private int readY;

        int length() {
            return length;
        }

        boolean isFull() {
            return length >= MAX_LENGTH;
        }

        void add(int value) {
            if (length >= 0 && length < MAX_LENGTH) {
                bytes[length] = value;
                length++;
            }
        }

        void empty() {
            length = 0;
        }

        /** Returns the position of the fault, or NONE. */
        int readPath(Drawing target) {
            at = 0;
            fault = NONE;
            target.clearPath();
            for (int subpath = 0; subpath <= MAX_SUBPATHS && fault == NONE && at < length; subpath++) {
                if (subpath < MAX_SUBPATHS) {
                    readSubpath(target);
                } else {
                    fault = at;
                }
            }
            return fault;
        }

        private void readSubpath(Drawing target) {
            expect('M');
            readPoint();
            target.startSubpath(readX, readY);
            for (int points = 1; points <= MAX_POINTS && fault == NONE && next() == 'L'; points++) {
                if (points < MAX_POINTS) {
                    at++;
                    readPoint();
                    target.addPoint(readX, readY);
                } else {
                    fault = at;
                }
            }
            if (fault == NONE && next() == 'Z') {
                at++;
                target.closeLast();
            }
        }

        private void readPoint() {
            readX = readNumber();
            expect(',');
            readY = readNumber();
        }

        /** A number ends before the first byte that is no digit; its range is looked at only then. */
        private int readNumber() {
            if (fault != NONE) {
                return 0;
            }
            int start = at;
            boolean negative = next() == '-';
            if (negative) {
                at++;
            }
            int value = 0;
            int digits = 0;
            while (digits < 3 && isDigit(next())) {
                value = 10 * value + next() - '0';
                at++;
                digits++;
            }
            if (digits == 0 || isDigit(next())) {
                fault = at;
            } else if (value > MAX_COORDINATE) {
                fault = start;
            }
            return negative ? -value : value;
        }

        private void expect(int wanted) {
            if (fault != NONE) {
                return;
            }
            if (next() == wanted) {
                at++;
            } else {
                fault = at;
            }
        }

        /** The byte at which the reading stands, NONE behind the end. */
        private int next() {
            return at >= 0 && at < length ? Numbers.at(bytes, at) : NONE;
        }

        private static boolean isDigit(int value) {
            return value >= '0' && value <= '9';
        }
    }

    /** Writes a path as a text. */
    private static final class PathWriter {
        /** "M-100,-100" is the longest point, and each subpath can have its "Z". */
        private static final int MAX_LENGTH = MAX_SUBPATHS * (10 * MAX_POINTS + 1);

        private final int[] bytes = new int[MAX_LENGTH];
        private int length;

        /** NONE behind the end. */
        int byteOf(Drawing drawing, int index) {
            length = 0;
            for (int subpath = 0; subpath < drawing.subpathCount(); subpath++) {
                writeSubpath(drawing, subpath);
            }
            return index >= 0 && index < length ? Numbers.at(bytes, index) : NONE;
        }

        private void writeSubpath(Drawing drawing, int subpath) {
            for (int point = 0; point < drawing.pointCount(subpath); point++) {
                write(point == 0 ? 'M' : 'L');
                writeNumber(drawing.xOf(subpath, point));
                write(',');
                writeNumber(drawing.yOf(subpath, point));
            }
            if (drawing.isClosed(subpath)) {
                write('Z');
            }
        }

        private void writeNumber(int value) {
            if (value < 0) {
                write('-');
            }
            int size = Math.abs(value);
            if (size >= 100) {
                write('0' + size / 100);
            }
            if (size >= 10) {
                write('0' + size / 10 % 10);
            }
            write('0' + size % 10);
        }

        private void write(int value) {
            if (length >= 0 && length < MAX_LENGTH) {
                bytes[length] = value;
                length++;
            }
        }
    }

    /** The segments of all subpaths, in their order, measured for the width of the stroke. */
    private static final class Segments {
        private final int[] first = new int[MAX_SUBPATHS + 1];
        private final int[] x = new int[MAX_SEGMENTS];
        private final int[] y = new int[MAX_SEGMENTS];
        private final int[] dx = new int[MAX_SEGMENTS];
        private final int[] dy = new int[MAX_SEGMENTS];
        private final int[] length = new int[MAX_SEGMENTS];
        private final int[] normalX = new int[MAX_SEGMENTS];
        private final int[] normalY = new int[MAX_SEGMENTS];
        private final int[] alongX = new int[MAX_SEGMENTS];
        private final int[] alongY = new int[MAX_SEGMENTS];
        private int count;

        void measure(Drawing drawing) {
            int reach = UNIT * drawing.halfWidth();
            count = 0;
            for (int subpath = 0; subpath < MAX_SUBPATHS; subpath++) {
                first[subpath] = count;
                int points = drawing.pointCount(subpath);
                int ends = drawing.isClosed(subpath) ? points : points - 1;
                for (int point = 0; point < ends; point++) {
                    int next = point + 1 < points ? point + 1 : 0;
                    int fromX = drawing.xOf(subpath, point);
                    int fromY = drawing.yOf(subpath, point);
                    int stepX = drawing.xOf(subpath, next) - fromX;
                    int stepY = drawing.yOf(subpath, next) - fromY;
                    addSegment(fromX, fromY, stepX, stepY, reach);
                }
            }
            first[MAX_SUBPATHS] = count;
        }

        /** Segments between equal points do not count. */
        private void addSegment(int fromX, int fromY, int stepX, int stepY, long reach) {
            int s = count;
            if (stepX == 0 && stepY == 0 || s < 0 || s >= MAX_SEGMENTS) {
                return;
            }
            x[s] = UNIT * fromX;
            y[s] = UNIT * fromY;
            dx[s] = stepX;
            dy[s] = stepY;
            length[s] = Numbers.root(UNIT * UNIT * (stepX * stepX + stepY * stepY));
            normalX[s] = Numbers.round(-stepY * reach, length[s]);
            normalY[s] = Numbers.round(stepX * reach, length[s]);
            alongX[s] = Numbers.round(stepX * reach, length[s]);
            alongY[s] = Numbers.round(stepY * reach, length[s]);
            count++;
        }

        int firstOf(int subpath) {
            return Numbers.at(first, subpath);
        }

        int endOf(int subpath) {
            return Numbers.at(first, subpath + 1);
        }

        int countOf(int subpath) {
            return endOf(subpath) - firstOf(subpath);
        }

        int size(int segment) {
            return Numbers.at(length, segment);
        }

        int lengthOf(int subpath) {
            return startOf(subpath, endOf(subpath));
        }

        int totalLength() {
            int total = 0;
            for (int segment = 0; segment < count; segment++) {
                total += size(segment);
            }
            return total;
        }

        /** The distance along the subpath at which the segment begins. */
        int startOf(int subpath, int segment) {
            int passed = 0;
            for (int s = Numbers.at(first, subpath); s < segment; s++) {
                passed += Numbers.at(length, s);
            }
            return passed;
        }

        /** The segment in which the distance lies, or NONE. */
        int segmentAt(int subpath, int distance) {
            int end = 0;
            for (int s = firstOf(subpath); s < endOf(subpath); s++) {
                end += size(s);
                if (distance <= end) {
                    return s;
                }
            }
            return NONE;
        }

        int xAt(int segment, int distance) {
            long step = (long) UNIT * Numbers.at(dx, segment) * distance;
            return Numbers.at(x, segment) + Numbers.round(step, Numbers.at(length, segment));
        }

        int yAt(int segment, int distance) {
            long step = (long) UNIT * Numbers.at(dy, segment) * distance;
            return Numbers.at(y, segment) + Numbers.round(step, Numbers.at(length, segment));
        }

        int normalX(int segment) {
            return Numbers.at(normalX, segment);
        }

        int normalY(int segment) {
            return Numbers.at(normalY, segment);
        }

        int alongX(int segment) {
            return Numbers.at(alongX, segment);
        }

        int alongY(int segment) {
            return Numbers.at(alongY, segment);
        }

        long cross(int one, int two) {
            return (long) Numbers.at(dx, one) * Numbers.at(dy, two) - (long) Numbers.at(dy, one) * Numbers.at(dx, two);
        }

        long dot(int one, int two) {
            return (long) Numbers.at(dx, one) * Numbers.at(dx, two) + (long) Numbers.at(dy, one) * Numbers.at(dy, two);
        }
    }

    /** A place in the endless dash pattern. */
    private static final class DashCursor {
        /** Without a pattern the first part is on, and longer than all subpaths together. */
        private static final int ENDLESS = 1 << 30;
        /** The greatest phase passes at most so many of the shortest lengths. */
        private static final int MAX_PASSED = 600 / 5;

        private final int[] lengths = new int[MAX_DASHES];
        private int dashes;
        private int phase;
        /** Counted through all repetitions: so an odd pattern, too, is on in the even parts. */
        private int part;
        private int left;

        void take(Drawing drawing) {
            dashes = Math.min(drawing.cell(Drawing.DASHES), MAX_DASHES);
            for (int dash = 0; dash < dashes; dash++) {
                lengths[dash] = UNIT * drawing.cell(Drawing.FIRST_DASH + dash);
            }
            phase = UNIT * drawing.cell(Drawing.PHASE);
        }

        void goToPhase() {
            int ahead = phase;
            part = 0;
            left = lengthOf(0);
            for (int passed = 0; passed < MAX_PASSED && ahead >= left; passed++) {
                ahead -= left;
                part++;
                left = lengthOf(part);
            }
            left -= ahead;
        }

        boolean isOn() {
            return (part & 1) == 0;
        }

        /** How far the part goes on. */
        int ahead() {
            return left;
        }

        /** Returns whether a new part begins. */
        boolean pass(int step) {
            left -= step;
            if (left > 0) {
                return false;
            }
            part++;
            left = lengthOf(part);
            return true;
        }

        private int lengthOf(int number) {
            return dashes > 0 && number >= 0 ? lengths[number % dashes] : ENDLESS;
        }
    }

    /** The runs of all subpaths; the pieces of segments of a run stand side by side, as spans. */
    private static final class Runs {
        /** Eight of the longest segments make 144808 units, a run and its gap at least 640: 228 runs with both ends. */
        private static final int MAX_RUNS = MAX_SUBPATHS * 232;
        /** Some more for the corners of the subpath, and for the spans that joinEnds copies. */
        private static final int MAX_SPANS = MAX_SUBPATHS * 256;

        private final DashCursor cursor = new DashCursor();
        private final int[] first = new int[MAX_SUBPATHS + 1];
        private final int[] begin = new int[MAX_RUNS];
        private final int[] length = new int[MAX_RUNS];
        private final int[] closed = new int[MAX_RUNS];
        private final int[] firstSpan = new int[MAX_RUNS];
        private final int[] spanCount = new int[MAX_RUNS];
        private final int[] spanSegment = new int[MAX_SPANS];
        private final int[] spanFrom = new int[MAX_SPANS];
        private final int[] spanTo = new int[MAX_SPANS];
        private int runs;
        private int spans;

        void walk(Drawing drawing, Segments segments) {
            runs = 0;
            spans = 0;
            cursor.take(drawing);
            for (int subpath = 0; subpath < MAX_SUBPATHS; subpath++) {
                first[subpath] = runs;
                if (subpath == 0 || drawing.cell(Drawing.CONTINUES) == 0) {
                    cursor.goToPhase();
                }
                walkSubpath(segments, subpath);
                if (drawing.isClosed(subpath)) {
                    joinEnds(subpath, segments.lengthOf(subpath));
                }
            }
            first[MAX_SUBPATHS] = runs;
        }

        private void walkSubpath(Segments segments, int subpath) {
            boolean running = false;
            int passed = 0;
            for (int segment = segments.firstOf(subpath); segment < segments.endOf(subpath); segment++) {
                int size = segments.size(segment);
                int step = 1;
                for (int at = 0; at < size; at += step) {
                    step = Math.max(1, Math.min(cursor.ahead(), size - at));
                    if (cursor.isOn()) {
                        if (!running) {
                            addRun(passed + at);
                        }
                        addSpan(segment, at, at + step);
                        running = true;
                    }
                    if (cursor.pass(step)) {
                        running = false;
                    }
                }
                passed += size;
            }
        }

        private void addRun(int at) {
            if (runs >= 0 && runs < MAX_RUNS) {
                begin[runs] = at;
                length[runs] = 0;
                closed[runs] = 0;
                firstSpan[runs] = spans;
                spanCount[runs] = 0;
                runs++;
            }
        }

        /** Adds to the last run. */
        private void addSpan(int segment, int from, int to) {
            int last = runs - 1;
            if (last >= 0 && last < MAX_RUNS && spans >= 0 && spans < MAX_SPANS) {
                spanSegment[spans] = segment;
                spanFrom[spans] = from;
                spanTo[spans] = to;
                spans++;
                length[last] += to - from;
                spanCount[last]++;
            }
        }

        /** Closes the run that is the whole subpath, or makes one run of those that meet at its beginning. */
        private void joinEnds(int subpath, int whole) {
            int one = firstOf(subpath);
            int last = runs - 1;
            if (one < 0 || last < one || last >= MAX_RUNS || begin[one] != 0 || begin[last] + length[last] != whole) {
                return;
            }
            if (one == last) {
                closed[one] = 1;
                return;
            }
            // The last run's spans are the last of all: copies of the first run's make them one row.
            int copied = firstSpan[one];
            int end = copied + spanCount[one];
            for (int span = copied; span < end; span++) {
                addSpan(segmentOf(span), fromOf(span), toOf(span));
            }
            begin[one] = begin[last];
            length[one] = length[last];
            firstSpan[one] = firstSpan[last];
            spanCount[one] = spanCount[last];
            runs--;
        }

        int firstOf(int subpath) {
            return Numbers.at(first, subpath);
        }

        int countOf(int subpath) {
            return Numbers.at(first, subpath + 1) - firstOf(subpath);
        }

        int about(int run, int what) {
            if (what == 0) {
                return Numbers.at(begin, run);
            }
            if (what == 1) {
                return Numbers.at(length, run);
            }
            return what == 2 ? spansOf(run) : Numbers.at(closed, run);
        }

        boolean isRing(int run) {
            return Numbers.at(closed, run) == 1;
        }

        int totalLength() {
            int total = 0;
            for (int run = 0; run < runs; run++) {
                total += Numbers.at(length, run);
            }
            return total;
        }

        int firstSpanOf(int run) {
            return Numbers.at(firstSpan, run);
        }

        int spansOf(int run) {
            return Numbers.at(spanCount, run);
        }

        int segmentOf(int span) {
            return Numbers.at(spanSegment, span);
        }

        int fromOf(int span) {
            return Numbers.at(spanFrom, span);
        }

        int toOf(int span) {
            return Numbers.at(spanTo, span);
        }
    }

    /** Convex polygons, and discs of one radius. */
    private static final class Pieces {
        static final int STRIP = 0;
        static final int MITER = 1;
        static final int BEVEL = 2;
        static final int DISC = 3;
        static final int SQUARE = 4;

        /** The sides of a rectangle; the odd ones are the greatest, those from 2 on are in y. */
        static final int LEFT = 0;
        static final int RIGHT = 1;
        static final int SMALLEST_Y = 2;
        static final int GREATEST_Y = 3;

        /** 236 strips, 8 joins and 456 caps of the 228 runs that Runs tells of. */
        private static final int MAX_PIECES = MAX_SUBPATHS * 700;
        private static final int MAX_CORNERS = 4;

        private final int[] kinds = new int[MAX_PIECES];
        private final int[] cornerX = new int[MAX_CORNERS * MAX_PIECES];
        private final int[] cornerY = new int[MAX_CORNERS * MAX_PIECES];
        private int count;
        private int corners;
        private int radius;

        void clear(int discRadius) {
            count = 0;
            radius = discRadius;
        }

        void start(int kind) {
            if (count >= 0 && count < MAX_PIECES) {
                kinds[count] = kind;
                count++;
                corners = 0;
            }
        }

        /** Adds to the piece that was started last. */
        void addCorner(int x, int y) {
            int at = MAX_CORNERS * (count - 1) + corners;
            if (corners < MAX_CORNERS && at >= 0 && at < MAX_CORNERS * MAX_PIECES) {
                cornerX[at] = x;
                cornerY[at] = y;
                corners++;
            }
        }

        int size() {
            return count;
        }

        int countOf(int kind) {
            int found = 0;
            for (int piece = 0; piece < count; piece++) {
                if (kindOf(piece) == kind) {
                    found++;
                }
            }
            return found;
        }

        int kindOf(int piece) {
            return Numbers.at(kinds, piece);
        }

        int cornerCount(int piece) {
            switch (Numbers.at(kinds, piece)) {
                case DISC:
                    return 1;
                case BEVEL:
                    return 3;
                default:
                    return MAX_CORNERS;
            }
        }

        int cornerX(int piece, int corner) {
            return Numbers.at(cornerX, MAX_CORNERS * piece + corner);
        }

        int cornerY(int piece, int corner) {
            return Numbers.at(cornerY, MAX_CORNERS * piece + corner);
        }

        long doubleArea(int piece) {
            long sum = 0;
            int end = cornerCount(piece);
            for (int corner = 0; corner < end; corner++) {
                int next = corner + 1 < end ? corner + 1 : 0;
                sum += (long) cornerX(piece, corner) * cornerY(piece, next);
                sum -= (long) cornerX(piece, next) * cornerY(piece, corner);
            }
            return Math.abs(sum);
        }

        int edgeOf(int piece, int side) {
            boolean greatest = (side & 1) == 1;
            int edge = 0;
            for (int corner = 0; corner < cornerCount(piece); corner++) {
                int place = side >= SMALLEST_Y ? cornerY(piece, corner) : cornerX(piece, corner);
                if (corner == 0 || (greatest ? place > edge : place < edge)) {
                    edge = place;
                }
            }
            int reach = kindOf(piece) == DISC ? radius : 0;
            return greatest ? edge + reach : edge - reach;
        }

        int edgeOfAll(int side) {
            boolean greatest = (side & 1) == 1;
            int edge = edgeOf(0, side);
            for (int piece = 1; piece < count; piece++) {
                int other = edgeOf(piece, side);
                edge = greatest ? Math.max(edge, other) : Math.min(edge, other);
            }
            return edge;
        }

        int countAround(int x, int y) {
            int found = 0;
            for (int piece = 0; piece < count; piece++) {
                if (covers(piece, x, y)) {
                    found++;
                }
            }
            return found;
        }

        boolean covers(int piece, int x, int y) {
            if (kindOf(piece) == DISC) {
                long dx = x - cornerX(piece, 0);
                long dy = y - cornerY(piece, 0);
                return dx * dx + dy * dy <= (long) radius * radius;
            }
            return isOnOneSide(piece, x, y) && isInBox(piece, x, y);
        }

        private boolean isInBox(int piece, int x, int y) {
            return x >= edgeOf(piece, LEFT) && x <= edgeOf(piece, RIGHT)
                    && y >= edgeOf(piece, SMALLEST_Y) && y <= edgeOf(piece, GREATEST_Y);
        }

        private boolean isOnOneSide(int piece, int x, int y) {
            boolean someAbove = false;
            boolean someBelow = false;
            int end = cornerCount(piece);
            for (int corner = 0; corner < end; corner++) {
                int next = corner + 1 < end ? corner + 1 : 0;
                long edgeX = cornerX(piece, next) - cornerX(piece, corner);
                long edgeY = cornerY(piece, next) - cornerY(piece, corner);
                long cross = edgeX * (y - cornerY(piece, corner)) - edgeY * (x - cornerX(piece, corner));
                someAbove = someAbove || cross > 0;
                someBelow = someBelow || cross < 0;
                if (someAbove && someBelow) {
                    return false;
                }
            }
            return true;
        }
    }

    /** Marks the points of a rectangle that pieces cover, a row of points in the bits of a number. */
    private static final class Grid {
        private final int[] marks = new int[MAX_GRID + 1];

        int countMarked(Pieces pieces, int x, int y, int width, int height) {
            for (int row = 0; row <= MAX_GRID; row++) {
                marks[row] = 0;
            }
            for (int piece = 0; piece < pieces.size(); piece++) {
                markCovered(pieces, piece, x, y, width, height);
            }
            int marked = 0;
            for (int row = 0; row <= MAX_GRID; row++) {
                marked += Integer.bitCount(marks[row]);
            }
            return marked;
        }

        /** Only the points in the rectangle round the piece are looked at, and those not marked yet. */
        private void markCovered(Pieces pieces, int piece, int x, int y, int width, int height) {
            int left = Math.max(0, upToUnit(pieces.edgeOf(piece, Pieces.LEFT)) - x);
            int right = Math.min(Math.min(width, MAX_GRID), downToUnit(pieces.edgeOf(piece, Pieces.RIGHT)) - x);
            int low = Math.max(0, upToUnit(pieces.edgeOf(piece, Pieces.SMALLEST_Y)) - y);
            int high = Math.min(Math.min(height, MAX_GRID), downToUnit(pieces.edgeOf(piece, Pieces.GREATEST_Y)) - y);
            for (int row = low; row <= high; row++) {
                for (int column = left; column <= right; column++) {
                    int bit = 1 << column;
                    if ((marks[row] & bit) == 0 && pieces.covers(piece, UNIT * (x + column), UNIT * (y + row))) {
                        marks[row] |= bit;
                    }
                }
            }
        }

        private static int downToUnit(int value) {
            return Math.floorDiv(value, UNIT);
        }

        private static int upToUnit(int value) {
            return Math.floorDiv(value + UNIT - 1, UNIT);
        }
    }

    /** What follows from a drawing: each stage is made when it is asked for, and kept until the drawing changes. */
    private static final class Stroke {
        private static final int MEASURED = 1;
        private static final int WALKED = 2;
        private static final int OUTLINED = 3;

        private static final int MITER_JOIN = 0;
        private static final int ROUND_JOIN = 1;
        private static final int ROUND_CAP = 1;
        private static final int SQUARE_CAP = 2;

        private final Segments segments = new Segments();
        private final Runs runs = new Runs();
        private final Pieces pieces = new Pieces();
        private int stage;
        private int half;
        private int join;
        private int limit;
        private int cap;

        void forget() {
            stage = 0;
        }

        Segments measured(Drawing drawing) {
            if (stage < MEASURED) {
                segments.measure(drawing);
                stage = MEASURED;
            }
            return segments;
        }

        Runs walked(Drawing drawing) {
            if (stage < WALKED) {
                runs.walk(drawing, measured(drawing));
                stage = WALKED;
            }
            return runs;
        }

        Pieces outlined(Drawing drawing) {
            if (stage < OUTLINED) {
                walked(drawing);
                outline(drawing);
                stage = OUTLINED;
            }
            return pieces;
        }

        private void outline(Drawing drawing) {
            half = drawing.halfWidth();
            join = drawing.cell(Drawing.JOIN);
            limit = drawing.cell(Drawing.LIMIT);
            cap = drawing.cell(Drawing.CAP);
            pieces.clear(half);
            for (int subpath = 0; subpath < drawing.subpathCount(); subpath++) {
                if (segments.countOf(subpath) == 0) {
                    addDot(UNIT * drawing.xOf(subpath, 0), UNIT * drawing.yOf(subpath, 0));
                }
                int end = runs.firstOf(subpath) + runs.countOf(subpath);
                for (int run = runs.firstOf(subpath); run < end; run++) {
                    outlineRun(run);
                }
            }
        }

        private void addDot(int x, int y) {
            if (cap == ROUND_CAP) {
                addDisc(x, y);
            } else if (cap == SQUARE_CAP) {
                pieces.start(Pieces.SQUARE);
                pieces.addCorner(x - half, y - half);
                pieces.addCorner(x + half, y - half);
                pieces.addCorner(x + half, y + half);
                pieces.addCorner(x - half, y + half);
            }
        }

        private void outlineRun(int run) {
            int first = runs.firstSpanOf(run);
            int end = first + runs.spansOf(run);
            boolean ring = runs.isRing(run);
            for (int span = first; span < end; span++) {
                addStrip(span);
                if (span + 1 < end) {
                    addJoin(span, span + 1);
                } else if (ring) {
                    addJoin(span, first);
                }
            }
            if (!ring && first < end) {
                addCap(runs.segmentOf(first), runs.fromOf(first), -1);
                addCap(runs.segmentOf(end - 1), runs.toOf(end - 1), 1);
            }
        }

        private void addStrip(int span) {
            int segment = runs.segmentOf(span);
            int ax = segments.xAt(segment, runs.fromOf(span));
            int ay = segments.yAt(segment, runs.fromOf(span));
            int bx = segments.xAt(segment, runs.toOf(span));
            int by = segments.yAt(segment, runs.toOf(span));
            int nx = segments.normalX(segment);
            int ny = segments.normalY(segment);
            pieces.start(Pieces.STRIP);
            pieces.addCorner(ax + nx, ay + ny);
            pieces.addCorner(bx + nx, by + ny);
            pieces.addCorner(bx - nx, by - ny);
            pieces.addCorner(ax - nx, ay - ny);
        }

        private void addJoin(int span, int nextSpan) {
            int one = runs.segmentOf(span);
            int two = runs.segmentOf(nextSpan);
            long cross = segments.cross(one, two);
            long dot = segments.dot(one, two);
            if (one == two || cross == 0 && dot > 0) {
                return;
            }
            int x = segments.xAt(one, runs.toOf(span));
            int y = segments.yAt(one, runs.toOf(span));
            if (join == ROUND_JOIN) {
                addDisc(x, y);
            }
            if (join == ROUND_JOIN || cross == 0) {
                return;
            }
            // the outer side of the corner: with the normals, or against them
            int side = cross > 0 ? -1 : 1;
            int oneX = segments.normalX(one);
            int oneY = segments.normalY(one);
            int twoX = segments.normalX(two);
            int twoY = segments.normalY(two);
            boolean miter = join == MITER_JOIN && isInLimit(dot, segments.dot(one, one) * segments.dot(two, two));
            pieces.start(miter ? Pieces.MITER : Pieces.BEVEL);
            pieces.addCorner(x, y);
            pieces.addCorner(x + side * oneX, y + side * oneY);
            if (miter) {
                addTip(x, y, side, oneX + twoX, oneY + twoY);
            }
            pieces.addCorner(x + side * twoX, y + side * twoY);
        }

        private void addTip(int x, int y, int side, long kx, long ky) {
            long square = kx * kx + ky * ky;
            long scale = 2L * half * half;
            int tipX = side * Numbers.round(scale * kx, square);
            int tipY = side * Numbers.round(scale * ky, square);
            pieces.addCorner(x + tipX, y + tipY);
        }

        /** Whether limit^2 * dot + (limit^2 - 2) * root(squares) is at least 0: squared, so that no root is rounded. */
        private boolean isInLimit(long dot, long squares) {
            long whole = (long) limit * limit * dot;
            long factor = (long) limit * limit - 2;
            if (whole < 0 == factor < 0) {
                return whole >= 0;
            }
            long wholeSquare = whole * whole;
            long rootSquare = factor * factor * squares;
            return whole < 0 ? rootSquare >= wholeSquare : wholeSquare >= rootSquare;
        }

        /** The direction is 1 at the end of a run, and -1 at its beginning. */
        private void addCap(int segment, int distance, int direction) {
            int x = segments.xAt(segment, distance);
            int y = segments.yAt(segment, distance);
            if (cap == ROUND_CAP) {
                addDisc(x, y);
            } else if (cap == SQUARE_CAP) {
                int nx = segments.normalX(segment);
                int ny = segments.normalY(segment);
                int ex = direction * segments.alongX(segment);
                int ey = direction * segments.alongY(segment);
                pieces.start(Pieces.SQUARE);
                pieces.addCorner(x + nx, y + ny);
                pieces.addCorner(x + nx + ex, y + ny + ey);
                pieces.addCorner(x - nx + ex, y - ny + ey);
                pieces.addCorner(x - nx, y - ny);
            }
        }

        private void addDisc(int x, int y) {
            pieces.start(Pieces.DISC);
            pieces.addCorner(x, y);
        }
    }
}
