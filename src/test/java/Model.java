import java.math.BigDecimal;
import java.math.BigInteger;
import java.math.MathContext;
import java.util.ArrayDeque;
import java.util.ArrayList;
import java.util.Deque;
import java.util.List;

/**
 * The document once more, in another way: everything is computed anew at each call, dashing goes unit by unit,
 * and the miter limit is decided with a root of 60 digits.
 */
final class Model {
    private static final class Sub {
        final List<int[]> points = new ArrayList<>();
        boolean closed;

        Sub copy() {
            Sub copy = new Sub();
            copy.points.addAll(points);
            copy.closed = closed;
            return copy;
        }
    }

    private static final class State {
        List<Sub> subs = new ArrayList<>();
        int width = 4;
        int join = 0;
        int limit = 4;
        int cap = 0;
        int phase = 0;
        boolean continues = false;
        List<Integer> dashes = new ArrayList<>();

        State copy() {
            State copy = new State();
            for (Sub sub : subs) {
                copy.subs.add(sub.copy());
            }
            copy.width = width;
            copy.join = join;
            copy.limit = limit;
            copy.cap = cap;
            copy.phase = phase;
            copy.continues = continues;
            copy.dashes.addAll(dashes);
            return copy;
        }
    }

    /** A segment of a subpath, or a piece of one: from and to are distances on the whole segment. */
    private record Part(int segment, int[] at, int dx, int dy, int length, int from, int to) {
        int[] place(int t) {
            return new int[] {64 * at[0] + round(64L * dx * t, length), 64 * at[1] + round(64L * dy * t, length)};
        }

        Part cut(int start, int end) {
            return new Part(segment, at, dx, dy, length, start, end);
        }
    }

    private record Run(int begin, int length, boolean closed, List<Part> parts) {
    }

    private record Piece(int kind, int[][] corners) {
    }

    private State state = new State();
    private final Deque<State> saved = new ArrayDeque<>();
    private final StringBuilder text = new StringBuilder();

    private static int round(long p, long q) {
        BigDecimal half = new BigDecimal("0.5");
        BigDecimal exact = new BigDecimal(p).divide(new BigDecimal(q), new MathContext(60));
        return exact.add(half).setScale(0, java.math.RoundingMode.FLOOR).intValueExact();
    }

    private static void range(int value, int low, int high) {
        if (value < low || value > high) {
            throw new IllegalArgumentException();
        }
    }

    private static void state(boolean good) {
        if (!good) {
            throw new IllegalStateException();
        }
    }

    private static void index(int index, int count) {
        if (index < 0 || index >= count) {
            throw new IndexOutOfBoundsException();
        }
    }

    private void save() {
        saved.addLast(state.copy());
        if (saved.size() > 4) {
            saved.removeFirst();
        }
    }

    private Sub sub(int number) {
        index(number, state.subs.size());
        return state.subs.get(number);
    }

    private Sub last() {
        return state.subs.isEmpty() ? null : state.subs.get(state.subs.size() - 1);
    }

    int moveTo(int x, int y) {
        range(x, -100, 100);
        range(y, -100, 100);
        state(state.subs.size() < 4);
        save();
        Sub sub = new Sub();
        sub.points.add(new int[] {x, y});
        state.subs.add(sub);
        return state.subs.size() - 1;
    }

    int lineTo(int x, int y) {
        range(x, -100, 100);
        range(y, -100, 100);
        state(last() != null && !last().closed && last().points.size() < 8);
        save();
        last().points.add(new int[] {x, y});
        return last().points.size();
    }

    int close() {
        state(last() != null && !last().closed);
        save();
        last().closed = true;
        return segments(last()).size();
    }

    int remove(int number) {
        sub(number);
        save();
        state.subs.remove(number);
        return state.subs.size();
    }

    int reverse(int number) {
        sub(number);
        save();
        java.util.Collections.reverse(sub(number).points);
        return sub(number).points.size();
    }

    int simplify(int number) {
        sub(number);
        save();
        Sub sub = sub(number);
        int before = sub.points.size();
        boolean again = true;
        while (again && sub.points.size() > 1) {
            again = false;
            int n = sub.points.size();
            for (int i = 0; i < n && !again; i++) {
                int[] previous = i > 0 ? sub.points.get(i - 1) : sub.closed ? sub.points.get(n - 1) : null;
                int[] next = i < n - 1 ? sub.points.get(i + 1) : sub.closed ? sub.points.get(0) : null;
                int[] point = sub.points.get(i);
                if (previous != null && same(previous, point)
                        || previous != null && next != null && between(previous, point, next)) {
                    sub.points.remove(i);
                    again = true;
                }
            }
        }
        return before - sub.points.size();
    }

    private static boolean same(int[] a, int[] b) {
        return a[0] == b[0] && a[1] == b[1];
    }

    /** b is on the way from a to c if the ways a-b and b-c point the same way, or one of them is no way at all. */
    private static boolean between(int[] a, int[] b, int[] c) {
        int ux = b[0] - a[0];
        int uy = b[1] - a[1];
        int vx = c[0] - b[0];
        int vy = c[1] - b[1];
        return ux * vy - uy * vx == 0 && ux * vx + uy * vy >= 0;
    }

    int transform(int quarters, int dx, int dy) {
        range(quarters, 0, 3);
        range(dx, -200, 200);
        range(dy, -200, 200);
        List<Sub> moved = new ArrayList<>();
        int count = 0;
        for (Sub sub : state.subs) {
            Sub copy = sub.copy();
            for (int i = 0; i < copy.points.size(); i++) {
                int[] p = copy.points.get(i);
                for (int q = 0; q < quarters; q++) {
                    p = new int[] {-p[1], p[0]};
                }
                p = new int[] {p[0] + dx, p[1] + dy};
                state(p[0] >= -100 && p[0] <= 100 && p[1] >= -100 && p[1] <= 100);
                copy.points.set(i, p);
                count++;
            }
            moved.add(copy);
        }
        save();
        state.subs = moved;
        return count;
    }

    int subpaths() {
        return state.subs.size();
    }

    int subpath(int number, int what) {
        Sub sub = sub(number);
        range(what, 0, 3);
        switch (what) {
            case 0:
                return sub.points.size();
            case 1:
                return sub.closed ? 1 : 0;
            case 2:
                return segments(sub).size();
            default:
                return length(sub);
        }
    }

    int point(int number, int point, boolean y) {
        index(point, sub(number).points.size());
        return sub(number).points.get(point)[y ? 1 : 0];
    }

    int pointAt(int number, int distance, boolean y) {
        Sub sub = sub(number);
        range(distance, 0, length(sub));
        int left = distance;
        for (Part segment : segments(sub)) {
            if (left <= segment.length) {
                return segment.place(left)[y ? 1 : 0];
            }
            left -= segment.length;
        }
        return 64 * sub.points.get(0)[y ? 1 : 0];
    }

    int setStyle(int width, int join, int limit, int cap) {
        range(width, 1, 40);
        range(join, 0, 2);
        range(limit, 1, 10);
        range(cap, 0, 2);
        save();
        int previous = state.width;
        state.width = width;
        state.join = join;
        state.limit = limit;
        state.cap = cap;
        return previous;
    }

    int setDashes(int phase, boolean continues) {
        range(phase, 0, 600);
        save();
        int previous = state.dashes.size();
        state.phase = phase;
        state.continues = continues;
        state.dashes.clear();
        return previous;
    }

    int addDash(int length) {
        range(length, 5, 100);
        state(state.dashes.size() < 6);
        save();
        state.dashes.add(length);
        return state.dashes.size();
    }

    private static List<Part> segments(Sub sub) {
        List<Part> found = new ArrayList<>();
        int n = sub.points.size();
        for (int i = 0; i < (sub.closed ? n : n - 1); i++) {
            int[] a = sub.points.get(i);
            int[] b = sub.points.get((i + 1) % n);
            if (!same(a, b)) {
                int dx = b[0] - a[0];
                int dy = b[1] - a[1];
                int length = BigInteger.valueOf(4096L * (dx * dx + dy * dy)).sqrt().intValueExact();
                found.add(new Part(found.size(), a, dx, dy, length, 0, length));
            }
        }
        return found;
    }

    private static int length(Sub sub) {
        int sum = 0;
        for (Part segment : segments(sub)) {
            sum += segment.length;
        }
        return sum;
    }

    private List<Run> runsOf(int number) {
        Sub sub = state.subs.get(number);
        int length = length(sub);
        List<Run> runs = new ArrayList<>();
        if (length == 0) {
            return runs;
        }
        if (state.dashes.isEmpty()) {
            runs.add(new Run(0, length, sub.closed, segments(sub)));
            return runs;
        }
        boolean[] on = dashing(startOf(number), length);
        for (int d = 0; d < length; d++) {
            if (on[d] && (d == 0 || !on[d - 1])) {
                int end = d;
                while (end < length && on[end]) {
                    end++;
                }
                runs.add(new Run(d, end - d, false, parts(sub, d, end)));
            }
        }
        if (sub.closed && on[0] && on[length - 1]) {
            Run first = runs.remove(0);
            if (runs.isEmpty()) {
                runs.add(new Run(0, length, true, first.parts));
            } else {
                Run end = runs.remove(runs.size() - 1);
                List<Part> parts = new ArrayList<>(end.parts);
                parts.addAll(first.parts);
                runs.add(0, new Run(end.begin, end.length + first.length, false, parts));
            }
        }
        return runs;
    }

    private int startOf(int number) {
        int start = 64 * state.phase;
        for (int i = 0; i < number && state.continues; i++) {
            start += length(state.subs.get(i));
        }
        return start;
    }

    /** Whether the pattern is on in each unit; a pattern with an odd number of lengths is written twice. */
    private boolean[] dashing(int start, int length) {
        List<Integer> pattern = new ArrayList<>(state.dashes);
        if (pattern.size() % 2 == 1) {
            pattern.addAll(state.dashes);
        }
        int period = 0;
        for (int dash : pattern) {
            period += 64 * dash;
        }
        boolean[] one = new boolean[period];
        int at = 0;
        for (int i = 0; i < pattern.size(); i++) {
            for (int k = 0; k < 64 * pattern.get(i); k++) {
                one[at++] = i % 2 == 0;
            }
        }
        boolean[] on = new boolean[length];
        for (int d = 0; d < length; d++) {
            on[d] = one[(start + d) % period];
        }
        return on;
    }

    private static List<Part> parts(Sub sub, int begin, int end) {
        List<Part> parts = new ArrayList<>();
        int passed = 0;
        for (Part segment : segments(sub)) {
            int from = Math.max(begin - passed, 0);
            int to = Math.min(end - passed, segment.length);
            if (from < to) {
                parts.add(segment.cut(from, to));
            }
            passed += segment.length;
        }
        return parts;
    }

    int runs(int number) {
        sub(number);
        return runsOf(number).size();
    }

    int run(int number, int run, int what) {
        sub(number);
        List<Run> runs = runsOf(number);
        index(run, runs.size());
        range(what, 0, 3);
        Run one = runs.get(run);
        switch (what) {
            case 0:
                return one.begin;
            case 1:
                return one.length;
            case 2:
                return one.parts.size();
            default:
                return one.closed ? 1 : 0;
        }
    }

    int dashed(boolean on) {
        int inRuns = 0;
        int all = 0;
        for (int i = 0; i < state.subs.size(); i++) {
            all += length(state.subs.get(i));
            for (Run run : runsOf(i)) {
                inRuns += run.length;
            }
        }
        return on ? inRuns : all - inRuns;
    }

    private int half() {
        return 32 * state.width;
    }

    private int[] normal(Part p) {
        return new int[] {round(-64L * p.dy * half(), p.length), round(64L * p.dx * half(), p.length)};
    }

    private int[] along(Part p) {
        return new int[] {round(64L * p.dx * half(), p.length), round(64L * p.dy * half(), p.length)};
    }

    private static int[] sum(int[] a, int scale, int[] b) {
        return new int[] {a[0] + scale * b[0], a[1] + scale * b[1]};
    }

    private List<Piece> allPieces() {
        List<Piece> pieces = new ArrayList<>();
        for (int i = 0; i < state.subs.size(); i++) {
            Sub sub = state.subs.get(i);
            if (segments(sub).isEmpty()) {
                dot(pieces, new int[] {64 * sub.points.get(0)[0], 64 * sub.points.get(0)[1]});
            }
            for (Run run : runsOf(i)) {
                outline(pieces, run);
            }
        }
        return pieces;
    }

    private void dot(List<Piece> pieces, int[] at) {
        int h = half();
        if (state.cap == 1) {
            pieces.add(new Piece(3, new int[][] {at}));
        }
        if (state.cap == 2) {
            int[][] corners = {{-h, -h}, {h, -h}, {h, h}, {-h, h}};
            for (int c = 0; c < 4; c++) {
                corners[c] = sum(at, 1, corners[c]);
            }
            pieces.add(new Piece(4, corners));
        }
    }

    private void outline(List<Piece> pieces, Run run) {
        int count = run.parts.size();
        for (int i = 0; i < count; i++) {
            Part part = run.parts.get(i);
            int[] n = normal(part);
            int[] a = part.place(part.from);
            int[] b = part.place(part.to);
            pieces.add(new Piece(0, new int[][] {sum(a, 1, n), sum(b, 1, n), sum(b, -1, n), sum(a, -1, n)}));
            if (i < count - 1 || run.closed) {
                join(pieces, part, run.parts.get((i + 1) % count), b);
            }
        }
        if (!run.closed) {
            Part first = run.parts.get(0);
            Part end = run.parts.get(count - 1);
            cap(pieces, first, first.place(first.from), -1);
            cap(pieces, end, end.place(end.to), 1);
        }
    }

    private void cap(List<Piece> pieces, Part part, int[] at, int way) {
        if (state.cap == 1) {
            pieces.add(new Piece(3, new int[][] {at}));
        }
        if (state.cap == 2) {
            int[] n = normal(part);
            int[] far = sum(at, way, along(part));
            pieces.add(new Piece(4, new int[][] {sum(at, 1, n), sum(far, 1, n), sum(far, -1, n), sum(at, -1, n)}));
        }
    }

    private void join(List<Piece> pieces, Part one, Part two, int[] v) {
        long cross = (long) one.dx * two.dy - (long) one.dy * two.dx;
        long dot = (long) one.dx * two.dx + (long) one.dy * two.dy;
        if (one.segment == two.segment || cross == 0 && dot > 0) {
            return;
        }
        if (state.join == 1) {
            pieces.add(new Piece(3, new int[][] {v}));
            return;
        }
        if (cross == 0) {
            return;
        }
        int s = cross > 0 ? -1 : 1;
        int[] n1 = normal(one);
        int[] n2 = normal(two);
        if (state.join == 0 && inLimit(one, two, dot)) {
            int[] k = sum(n1, 1, n2);
            long k2 = (long) k[0] * k[0] + (long) k[1] * k[1];
            long h = half();
            int[] tip = {round(2 * h * h * k[0], k2), round(2 * h * h * k[1], k2)};
            pieces.add(new Piece(1, new int[][] {v, sum(v, s, n1), sum(v, s, tip), sum(v, s, n2)}));
        } else {
            pieces.add(new Piece(2, new int[][] {v, sum(v, s, n1), sum(v, s, n2)}));
        }
    }

    private boolean inLimit(Part one, Part two, long dot) {
        MathContext digits = new MathContext(60);
        long squares = (long) (one.dx * one.dx + one.dy * one.dy) * (two.dx * two.dx + two.dy * two.dy);
        BigDecimal root = new BigDecimal(squares).sqrt(digits);
        long m2 = (long) state.limit * state.limit;
        BigDecimal value = new BigDecimal(m2 * dot).add(new BigDecimal(m2 - 2).multiply(root));
        return value.compareTo(new BigDecimal("-1e-30")) > 0;
    }

    int pieces(int kind) {
        range(kind, -1, 4);
        int count = 0;
        for (Piece piece : allPieces()) {
            count += kind == -1 || piece.kind == kind ? 1 : 0;
        }
        return count;
    }

    long piece(int number, int what) {
        List<Piece> all = allPieces();
        index(number, all.size());
        range(what, 0, 2);
        Piece piece = all.get(number);
        if (what < 2) {
            return what == 0 ? piece.kind : piece.corners.length;
        }
        long area = 0;
        for (int c = 0; c < piece.corners.length; c++) {
            int[] a = piece.corners[c];
            int[] b = piece.corners[(c + 1) % piece.corners.length];
            area += (long) a[0] * b[1] - (long) b[0] * a[1];
        }
        return Math.abs(area);
    }

    int corner(int number, int corner, boolean y) {
        List<Piece> all = allPieces();
        index(number, all.size());
        index(corner, all.get(number).corners.length);
        return all.get(number).corners[corner][y ? 1 : 0];
    }

    int bounds(int side) {
        range(side, 0, 3);
        List<Piece> all = allPieces();
        state(!all.isEmpty());
        int sign = side % 2 == 0 ? -1 : 1;
        int best = Integer.MIN_VALUE;
        for (Piece piece : all) {
            for (int[] corner : piece.corners) {
                best = Math.max(best, sign * corner[side / 2] + (piece.kind == 3 ? half() : 0));
            }
        }
        return sign * best;
    }

    private boolean covers(Piece piece, int x, int y) {
        if (piece.kind == 3) {
            return Math.pow(x - piece.corners[0][0], 2) + Math.pow(y - piece.corners[0][1], 2) <= Math.pow(half(), 2);
        }
        int plus = 0;
        int minus = 0;
        int[] low = piece.corners[0].clone();
        int[] high = piece.corners[0].clone();
        for (int c = 0; c < piece.corners.length; c++) {
            int[] a = piece.corners[c];
            int[] b = piece.corners[(c + 1) % piece.corners.length];
            long cross = (long) (b[0] - a[0]) * (y - a[1]) - (long) (b[1] - a[1]) * (x - a[0]);
            plus += cross >= 0 ? 1 : 0;
            minus += cross <= 0 ? 1 : 0;
            for (int i = 0; i < 2; i++) {
                low[i] = Math.min(low[i], a[i]);
                high[i] = Math.max(high[i], a[i]);
            }
        }
        return (plus == piece.corners.length || minus == piece.corners.length)
                && low[0] <= x && x <= high[0] && low[1] <= y && y <= high[1];
    }

    int covering(int x, int y) {
        range(x, -20000, 20000);
        range(y, -20000, 20000);
        int count = 0;
        for (Piece piece : allPieces()) {
            count += covers(piece, x, y) ? 1 : 0;
        }
        return count;
    }

    int covered(int x, int y, int width, int height) {
        range(x, -100, 100);
        range(y, -100, 100);
        range(width, 0, 20);
        range(height, 0, 20);
        List<Piece> all = allPieces();
        int count = 0;
        for (int px = x; px <= x + width; px++) {
            for (int py = y; py <= y + height; py++) {
                boolean some = false;
                for (Piece piece : all) {
                    some |= covers(piece, 64 * px, 64 * py);
                }
                count += some ? 1 : 0;
            }
        }
        return count;
    }

    int nearest(int x, int y) {
        range(x, -100, 100);
        range(y, -100, 100);
        int best = Integer.MAX_VALUE;
        for (Sub sub : state.subs) {
            for (int[] p : sub.points) {
                best = Math.min(best, (p[0] - x) * (p[0] - x) + (p[1] - y) * (p[1] - y));
            }
        }
        return state.subs.isEmpty() ? -1 : best;
    }

    int append(int value) {
        range(value, 0, 127);
        state(text.length() < 150);
        text.append((char) value);
        return text.length();
    }

    int clearText() {
        int length = text.length();
        text.setLength(0);
        return length;
    }

    int parse() {
        List<Sub> read = new ArrayList<>();
        int fault = read(read);
        if (fault >= 0) {
            return -10 - fault;
        }
        save();
        state.subs = read;
        return read.size();
    }

    /** Goes byte by byte; the letter tells what was read last, and an added NUL stands for the end of the text. */
    private int read(List<Sub> read) {
        char last = 'Z';
        String number = "";
        int start = 0;
        int x = 0;
        boolean second = false;
        for (int i = 0; i <= text.length(); i++) {
            char c = i < text.length() ? text.charAt(i) : '\0';
            boolean end = i == text.length();
            if (last == '0' && !end && c >= '0' && c <= '9') {
                number += c;
                if (number.replace("-", "").length() > 3) {
                    return i;
                }
                continue;
            }
            if (last == '0') {
                if (number.isEmpty() && c == '-' && !end) {
                    number = "-";
                    continue;
                }
                if (number.replace("-", "").isEmpty()) {
                    return i;
                }
                int value = Integer.parseInt(number);
                if (value < -100 || value > 100) {
                    return start;
                }
                number = "";
                if (!second) {
                    if (end || c != ',') {
                        return i;
                    }
                    x = value;
                    second = true;
                    start = i + 1;
                    continue;
                }
                read.get(read.size() - 1).points.add(new int[] {x, value});
                last = 'P';
            }
            if (end) {
                return -1;
            }
            boolean open = last == 'P';
            if (c == 'Z' && open) {
                read.get(read.size() - 1).closed = true;
                last = 'Z';
            } else if (c == 'M' && read.size() < 4 || c == 'L' && open && read.get(read.size() - 1).points.size() < 8) {
                if (c == 'M') {
                    read.add(new Sub());
                }
                last = '0';
                second = false;
                start = i + 1;
            } else {
                return i;
            }
        }
        return -1;
    }

    String writtenText() {
        StringBuilder written = new StringBuilder();
        for (Sub sub : state.subs) {
            char letter = 'M';
            for (int[] p : sub.points) {
                written.append(letter).append(p[0]).append(',').append(p[1]);
                letter = 'L';
            }
            written.append(sub.closed ? "Z" : "");
        }
        return written.toString();
    }

    int written(int index) {
        if (index < 0) {
            throw new IllegalArgumentException();
        }
        return index < writtenText().length() ? writtenText().charAt(index) : -1;
    }

    int undo() {
        state(!saved.isEmpty());
        state = saved.removeLast();
        return saved.size();
    }

    long digest() {
        List<Long> values = new ArrayList<>();
        add(values, text.length(), state.width, state.join, state.limit, state.cap, state.phase, state.continues ? 1 : 0);
        add(values, state.dashes.size());
        for (int dash : state.dashes) {
            add(values, dash);
        }
        add(values, state.subs.size());
        for (int i = 0; i < state.subs.size(); i++) {
            add(values, subpath(i, 0), subpath(i, 1), subpath(i, 2), subpath(i, 3));
            for (int[] p : state.subs.get(i).points) {
                add(values, p);
            }
            List<Run> runs = runsOf(i);
            add(values, runs.size());
            for (Run run : runs) {
                add(values, run.begin, run.length, run.parts.size(), run.closed ? 1 : 0);
            }
        }
        List<Piece> all = allPieces();
        add(values, all.size());
        for (Piece piece : all) {
            add(values, piece.kind);
            for (int[] corner : piece.corners) {
                add(values, corner);
            }
        }
        add(values, saved.size());
        long hash = 2903;
        for (long value : values) {
            hash = 31 * hash + value;
        }
        return hash;
    }

    private static void add(List<Long> values, int... more) {
        for (int value : more) {
            values.add((long) value);
        }
    }
}
