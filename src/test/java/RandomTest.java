import java.util.Random;

/**
 * Runs of calls, ordinary and wrong ones, on the program and on the model side by side. The seeds are fixed, so each
 * run is the same every time.
 */
public final class RandomTest {
    private static final int RUNS = 400;
    private static final int CALLS = 512;

    private final StrokeOutliner program = new StrokeOutliner();
    private final Model model = new Model();
    private final Random random;
    private final int seed;
    /** The first runs stay among small coordinates, where points meet, lie on lines, and are covered more often. */
    private final int reach;

    private RandomTest(int seed) {
        this.seed = seed;
        this.random = new Random(seed);
        this.reach = new int[] {2, 10, 40, 100}[seed % 4];
    }

    public static void main(String[] args) {
        for (int seed = 0; seed < RUNS; seed++) {
            new RandomTest(seed).play();
        }
        Check.finish();
    }

    private void play() {
        for (int call = 0; call < CALLS; call++) {
            if (random.nextInt(3) > 0) {
                change();
            } else {
                ask();
            }
        }
        same("digest()", program::digest, model::digest);
    }

    private void same(String call, Check.Call got, Check.Call due) {
        Check.equal("seed " + seed + ": " + call, Check.outcome(got), Check.outcome(due));
    }

    /** From low to high, now and then one beyond. */
    private int some(int low, int high) {
        int kind = random.nextInt(40);
        if (kind == 0) {
            return low - 1;
        }
        if (kind == 1) {
            return high + 1;
        }
        if (kind == 2) {
            return random.nextBoolean() ? low : high;
        }
        return low + random.nextInt(high - low + 1);
    }

    private int coordinate() {
        return random.nextInt(40) == 0 ? some(-100, 100) : random.nextInt(2 * reach + 1) - reach;
    }

    private int place() {
        return random.nextInt(30) == 0 ? some(-20000, 20000) : 64 * coordinate() + random.nextInt(200) - 100;
    }

    private void change() {
        int x = coordinate();
        int y = coordinate();
        boolean flag = random.nextBoolean();
        int kind = random.nextInt(20);
        int subpath = some(0, 3);
        switch (kind) {
            case 0, 1 -> same("moveTo(" + x + ", " + y + ")", () -> program.moveTo(x, y), () -> model.moveTo(x, y));
            case 2, 3, 4, 5, 6, 7 ->
                    same("lineTo(" + x + ", " + y + ")", () -> program.lineTo(x, y), () -> model.lineTo(x, y));
            case 8 -> same("close()", program::close, model::close);
            case 9 -> same("remove(" + subpath + ")", () -> program.remove(subpath), () -> model.remove(subpath));
            case 10 -> same("reverse(" + subpath + ")", () -> program.reverse(subpath), () -> model.reverse(subpath));
            case 11 ->
                    same("simplify(" + subpath + ")", () -> program.simplify(subpath), () -> model.simplify(subpath));
            case 12 -> transform();
            case 13, 14 -> setStyle();
            case 15 -> {
                int phase = some(0, 600);
                same("setDashes(" + phase + ", " + flag + ")", () -> program.setDashes(phase, flag),
                        () -> model.setDashes(phase, flag));
            }
            case 16 -> {
                int length = random.nextInt(4) > 0 ? some(5, 20) : some(5, 100);
                same("addDash(" + length + ")", () -> program.addDash(length), () -> model.addDash(length));
            }
            case 17 -> same("undo()", program::undo, model::undo);
            case 18 -> changeText();
            default -> same("parse()", program::parse, model::parse);
        }
    }

    private void transform() {
        int quarters = some(0, 3);
        int dx = random.nextInt(3) > 0 ? some(-5, 5) : some(-200, 200);
        int dy = random.nextInt(3) > 0 ? some(-5, 5) : some(-200, 200);
        same("transform(" + quarters + ", " + dx + ", " + dy + ")", () -> program.transform(quarters, dx, dy),
                () -> model.transform(quarters, dx, dy));
    }

    private void setStyle() {
        int width = random.nextInt(3) > 0 ? some(1, 6) : some(1, 40);
        int join = some(0, 2);
        int limit = some(1, 10);
        int cap = some(0, 2);
        same("setStyle(" + width + ", " + join + ", " + limit + ", " + cap + ")",
                () -> program.setStyle(width, join, limit, cap), () -> model.setStyle(width, join, limit, cap));
    }

    private void changeText() {
        if (random.nextInt(3) == 0) {
            same("clearText()", program::clearText, model::clearText);
        }
        StringBuilder text = new StringBuilder();
        int subpaths = random.nextInt(20) == 0 ? 5 : random.nextInt(3) + 1;
        for (int i = 0; i < subpaths; i++) {
            int points = random.nextInt(20) == 0 ? 9 : random.nextInt(4) + 1;
            for (int p = 0; p < points; p++) {
                text.append(p == 0 ? 'M' : 'L').append(coordinate()).append(',').append(coordinate());
            }
            text.append(random.nextBoolean() ? "Z" : "");
        }
        if (random.nextInt(3) == 0 && text.length() > 0) {
            spoil(text);
        }
        for (int i = 0; i < text.length(); i++) {
            int value = text.charAt(i);
            same("append(" + value + ")", () -> program.append(value), () -> model.append(value));
        }
        int wrong = some(0, 127);
        if (wrong < 0 || wrong > 127) {
            same("append(" + wrong + ")", () -> program.append(wrong), () -> model.append(wrong));
        }
        same("parse()", program::parse, model::parse);
    }

    private void spoil(StringBuilder text) {
        int at = random.nextInt(text.length());
        switch (random.nextInt(4)) {
            case 0 -> text.setLength(at);
            case 1 -> text.deleteCharAt(at);
            case 2 -> text.insert(at, "0123456789-,MLZ m".charAt(random.nextInt(17)));
            default -> text.setCharAt(at, "0123456789-,MLZ l".charAt(random.nextInt(17)));
        }
    }

    private void ask() {
        int x = coordinate();
        int y = coordinate();
        int kind = random.nextInt(18);
        int subpath = some(0, 3);
        boolean flag = random.nextBoolean();
        int what = some(0, 3);
        switch (kind) {
            case 0 -> same("subpaths()", program::subpaths, model::subpaths);
            case 1 -> same("subpath(" + subpath + ", " + what + ")", () -> program.subpath(subpath, what),
                    () -> model.subpath(subpath, what));
            case 2 -> {
                int point = some(0, 7);
                same("point(" + subpath + ", " + point + ", " + flag + ")", () -> program.point(subpath, point, flag),
                        () -> model.point(subpath, point, flag));
            }
            case 3, 4 -> askPointAt(subpath, flag);
            case 5 -> same("runs(" + subpath + ")", () -> program.runs(subpath), () -> model.runs(subpath));
            case 6, 7 -> {
                int run = some(0, 5);
                same("run(" + subpath + ", " + run + ", " + what + ")", () -> program.run(subpath, run, what),
                        () -> model.run(subpath, run, what));
            }
            case 8 -> same("dashed(" + flag + ")", () -> program.dashed(flag), () -> model.dashed(flag));
            case 9 -> {
                int of = some(-1, 4);
                same("pieces(" + of + ")", () -> program.pieces(of), () -> model.pieces(of));
            }
            case 10, 11 -> askPiece(flag);
            case 12 -> {
                int side = some(0, 3);
                same("bounds(" + side + ")", () -> program.bounds(side), () -> model.bounds(side));
            }
            case 13 -> {
                int px = place();
                int py = place();
                same("covering(" + px + ", " + py + ")", () -> program.covering(px, py), () -> model.covering(px, py));
            }
            case 14 -> {
                int width = some(0, 20);
                int height = some(0, 20);
                same("covered(" + x + ", " + y + ", " + width + ", " + height + ")",
                        () -> program.covered(x, y, width, height), () -> model.covered(x, y, width, height));
            }
            case 15 -> same("nearest(" + x + ", " + y + ")", () -> program.nearest(x, y), () -> model.nearest(x, y));
            case 16 -> {
                int index = some(0, 60);
                same("written(" + index + ")", () -> program.written(index), () -> model.written(index));
            }
            default -> same("digest()", program::digest, model::digest);
        }
    }

    private void askPointAt(int subpath, boolean y) {
        int length = subpath >= 0 && subpath < model.subpaths() ? model.subpath(subpath, 3) : 10;
        int distance = some(0, length);
        same("pointAt(" + subpath + ", " + distance + ", " + y + ")", () -> program.pointAt(subpath, distance, y),
                () -> model.pointAt(subpath, distance, y));
    }

    private void askPiece(boolean y) {
        int piece = some(0, Math.max(0, model.pieces(-1) - 1));
        int what = some(0, 2);
        int corner = some(0, 3);
        same("piece(" + piece + ", " + what + ")", () -> program.piece(piece, what), () -> model.piece(piece, what));
        same("corner(" + piece + ", " + corner + ", " + y + ")", () -> program.corner(piece, corner, y),
                () -> model.corner(piece, corner, y));
    }
}
