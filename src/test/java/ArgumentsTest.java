/**
 * Every argument of every method: the last value that is taken and the first that is refused on either side, the
 * farthest ints, the exception for them, that it changes nothing, and which exception comes first.
 */
public final class ArgumentsTest {
    private static final String ARGUMENT = "IllegalArgumentException";
    private static final String STATE = "IllegalStateException";
    private static final String INDEX = "IndexOutOfBoundsException";

    private interface Call {
        long answer(StrokeOutliner o, int value);
    }

    public static void main(String[] args) {
        coordinates();
        subpathNumbers();
        transform();
        style();
        dashes();
        pieces();
        covering();
        text();
        argumentBeforeState();
        indexBeforeArgument();
        Check.finish();
    }

    /** Each call is taken on it: an open subpath of three points is the last one, and nothing is full. */
    private static StrokeOutliner sample() {
        StrokeOutliner o = Drawn.dashed("M0,0L30,0L30,30M5,5ZM-1,-2L-11,-2L-11,8", 0, false, 20, 5);
        o.setStyle(4, 2, 4, 1);
        return o;
    }

    private static void range(String call, int low, int high, String exception, Call tried) {
        taken(call, low, tried);
        taken(call, high, tried);
        refused(call, low - 1, exception, tried);
        refused(call, high + 1, exception, tried);
        refused(call, low - 2, exception, tried);
        refused(call, high + 2, exception, tried);
        refused(call, Integer.MIN_VALUE, exception, tried);
        refused(call, Integer.MAX_VALUE, exception, tried);
    }

    private static void taken(String call, int value, Call tried) {
        StrokeOutliner o = sample();
        String outcome = Check.outcome(() -> tried.answer(o, value));
        Check.equal(call + " takes " + value + ": " + outcome, outcome.endsWith("Exception") ? 1 : 0, 0);
    }

    private static void refused(String call, int value, String exception, Call tried) {
        StrokeOutliner o = sample();
        Drawn.refused(call + " with " + value, exception, o, () -> tried.answer(o, value));
    }

    private static void coordinates() {
        range("moveTo x", -100, 100, ARGUMENT, (o, v) -> o.moveTo(v, 7));
        range("moveTo y", -100, 100, ARGUMENT, (o, v) -> o.moveTo(7, v));
        range("lineTo x", -100, 100, ARGUMENT, (o, v) -> o.lineTo(v, 7));
        range("lineTo y", -100, 100, ARGUMENT, (o, v) -> o.lineTo(7, v));
        range("nearest x", -100, 100, ARGUMENT, (o, v) -> o.nearest(v, 7));
        range("nearest y", -100, 100, ARGUMENT, (o, v) -> o.nearest(7, v));
    }

    private static void subpathNumbers() {
        range("remove", 0, 2, INDEX, (o, v) -> o.remove(v));
        range("reverse", 0, 2, INDEX, (o, v) -> o.reverse(v));
        range("simplify", 0, 2, INDEX, (o, v) -> o.simplify(v));
        range("subpath", 0, 2, INDEX, (o, v) -> o.subpath(v, 0));
        range("subpath what", 0, 3, ARGUMENT, (o, v) -> o.subpath(0, v));
        range("point's subpath", 0, 2, INDEX, (o, v) -> o.point(v, 0, true));
        range("point", 0, 2, INDEX, (o, v) -> o.point(0, v, true));
        range("the point of a dot", 0, 0, INDEX, (o, v) -> o.point(1, v, false));
        range("pointAt's subpath", 0, 2, INDEX, (o, v) -> o.pointAt(v, 0, true));
        range("pointAt", 0, 3840, ARGUMENT, (o, v) -> o.pointAt(0, v, true));
        range("pointAt a dot", 0, 0, ARGUMENT, (o, v) -> o.pointAt(1, v, true));
        range("runs", 0, 2, INDEX, (o, v) -> o.runs(v));
        // 1280 on, 320 off: the first subpath has the runs 0, 1600 and 3200, the last one 0
        range("run", 0, 2, INDEX, (o, v) -> o.run(0, v, 0));
        range("the run of the last subpath", 0, 0, INDEX, (o, v) -> o.run(2, v, 0));
        range("run what", 0, 3, ARGUMENT, (o, v) -> o.run(0, 0, v));
        for (int run : new int[] {-1, 0, 1, Integer.MIN_VALUE, Integer.MAX_VALUE}) {
            refused("the run of a dot", run, INDEX, (o, v) -> o.run(1, v, 0));
        }
        for (int subpath : new int[] {-1, 3, 4, Integer.MIN_VALUE, Integer.MAX_VALUE}) {
            refused("run's subpath", subpath, INDEX, (o, v) -> o.run(v, 0, 0));
        }
    }

    private static void transform() {
        range("transform quarters", 0, 3, ARGUMENT, (o, v) -> o.transform(v, 0, 0));
        // a drawing without points can be moved as far as one wants
        Call empty = (o, v) -> emptied(o).transform(0, v, 0);
        taken("transform dx", -200, empty);
        taken("transform dx", 200, empty);
        Call emptyUp = (o, v) -> emptied(o).transform(0, 0, v);
        taken("transform dy", -200, emptyUp);
        taken("transform dy", 200, emptyUp);
        for (int far : new int[] {-201, 201, -202, 202, Integer.MIN_VALUE, Integer.MAX_VALUE}) {
            refused("transform dx", far, ARGUMENT, (o, v) -> o.transform(0, v, 0));
            refused("transform dy", far, ARGUMENT, (o, v) -> o.transform(0, 0, v));
        }
        // the sample goes from -11 to 30 in x and from -2 to 30 in y; a quarter later from -30 to 2 and from -11 to 30
        edge("transform dx", -89, 70, (o, v) -> o.transform(0, v, 0));
        edge("transform dy", -98, 70, (o, v) -> o.transform(0, 0, v));
        edge("transform dx, turned", -70, 98, (o, v) -> o.transform(1, v, 0));
        edge("transform dy, turned", -89, 70, (o, v) -> o.transform(1, 0, v));
    }

    private static StrokeOutliner emptied(StrokeOutliner o) {
        while (o.subpaths() > 0) {
            o.remove(0);
        }
        return o;
    }

    private static void edge(String call, int low, int high, Call tried) {
        taken(call, low, tried);
        taken(call, high, tried);
        refused(call, low - 1, STATE, tried);
        refused(call, high + 1, STATE, tried);
        refused(call, -200, STATE, tried);
        refused(call, 200, STATE, tried);
    }

    private static void style() {
        range("setStyle width", 1, 40, ARGUMENT, (o, v) -> o.setStyle(v, 0, 1, 0));
        range("setStyle join", 0, 2, ARGUMENT, (o, v) -> o.setStyle(1, v, 1, 0));
        range("setStyle limit", 1, 10, ARGUMENT, (o, v) -> o.setStyle(1, 0, v, 0));
        range("setStyle cap", 0, 2, ARGUMENT, (o, v) -> o.setStyle(1, 0, 1, v));
    }

    private static void dashes() {
        range("setDashes phase", 0, 600, ARGUMENT, (o, v) -> o.setDashes(v, true));
        range("addDash", 5, 100, ARGUMENT, (o, v) -> o.addDash(v));
    }

    private static void pieces() {
        StrokeOutliner o = sample();
        int last = o.pieces(StrokeOutliner.NONE) - 1;
        // three runs of 20: two straight ones, one round a corner; the dot; and one run of 20 round a corner
        Check.equal("the kinds of the sample", Drawn.kinds(o), "033" + "02033" + "033" + "3" + "02033");
        range("pieces", -1, 4, ARGUMENT, (x, v) -> x.pieces(v));
        range("piece", 0, last, INDEX, (x, v) -> x.piece(v, 0));
        range("piece what", 0, 2, ARGUMENT, (x, v) -> x.piece(0, v));
        range("corner's piece", 0, last, INDEX, (x, v) -> x.corner(v, 0, true));
        range("corner of a strip", 0, 3, INDEX, (x, v) -> x.corner(0, v, true));
        range("corner of a disc", 0, 0, INDEX, (x, v) -> x.corner(1, v, true));
        range("corner of a bevel", 0, 2, INDEX, (x, v) -> x.corner(4, v, false));
        for (int corner : new int[] {0, 3}) {
            taken("corner of a miter", corner, (x, v) -> mitered(x).corner(1, v, false));
            taken("corner of a square", corner, (x, v) -> mitered(x).corner(3, v, false));
        }
        for (int corner : new int[] {-1, 4, 5, Integer.MIN_VALUE, Integer.MAX_VALUE}) {
            StrokeOutliner m = mitered(sample());
            Drawn.refused("corner of a miter", INDEX, m, () -> m.corner(1, corner, false));
            Drawn.refused("corner of a square", INDEX, m, () -> m.corner(3, corner, false));
        }
        range("bounds", 0, 3, ARGUMENT, (x, v) -> x.bounds(v));
    }

    /** Without dashes, the first subpath is strip, miter, strip, square, square. */
    private static StrokeOutliner mitered(StrokeOutliner o) {
        o.setStyle(4, 0, 4, 2);
        o.setDashes(0, false);
        return o;
    }

    private static void covering() {
        range("covering x", -20000, 20000, ARGUMENT, (o, v) -> o.covering(v, 0));
        range("covering y", -20000, 20000, ARGUMENT, (o, v) -> o.covering(0, v));
        range("covered x", -100, 100, ARGUMENT, (o, v) -> o.covered(v, 0, 20, 20));
        range("covered y", -100, 100, ARGUMENT, (o, v) -> o.covered(0, v, 20, 20));
        range("covered width", 0, 20, ARGUMENT, (o, v) -> o.covered(0, 0, v, 20));
        range("covered height", 0, 20, ARGUMENT, (o, v) -> o.covered(0, 0, 20, v));
    }

    private static void text() {
        range("append", 0, 127, ARGUMENT, (o, v) -> o.append(v));
        taken("written", 0, (o, v) -> o.written(v));
        taken("written", Integer.MAX_VALUE, (o, v) -> o.written(v));
        refused("written", -1, ARGUMENT, (o, v) -> o.written(v));
        refused("written", -2, ARGUMENT, (o, v) -> o.written(v));
        refused("written", Integer.MIN_VALUE, ARGUMENT, (o, v) -> o.written(v));
    }

    private static StrokeOutliner full() {
        StrokeOutliner o = Drawn.dashed("M0,0M0,0M0,0M0,0L1,0L2,0L3,0L4,0L5,0L6,0L7,0", 0, false, 5, 5, 5, 5, 5, 5);
        while (o.append(0) < 150) {
            o.written(0);
        }
        return o;
    }

    /** IllegalArgumentException is listed first. */
    private static void argumentBeforeState() {
        StrokeOutliner full = full();
        Drawn.refused("moveTo, full", STATE, full, () -> full.moveTo(0, 0));
        Drawn.refused("moveTo, full and out of range", ARGUMENT, full, () -> full.moveTo(101, 0));
        Drawn.refused("moveTo, full and out of range in y", ARGUMENT, full, () -> full.moveTo(0, -101));
        Drawn.refused("lineTo, full", STATE, full, () -> full.lineTo(0, 0));
        Drawn.refused("lineTo, full and out of range", ARGUMENT, full, () -> full.lineTo(-101, 0));
        Drawn.refused("addDash, full", STATE, full, () -> full.addDash(5));
        Drawn.refused("addDash, full and too short", ARGUMENT, full, () -> full.addDash(4));
        Drawn.refused("addDash, full and too long", ARGUMENT, full, () -> full.addDash(101));
        Drawn.refused("append, full", STATE, full, () -> full.append(0));
        Drawn.refused("append, full and negative", ARGUMENT, full, () -> full.append(-1));
        Drawn.refused("append, full and too great", ARGUMENT, full, () -> full.append(128));
        Drawn.refused("transform, too far and four quarters", ARGUMENT, full, () -> full.transform(4, 200, 0));
        Drawn.refused("transform, too far in x and dy", ARGUMENT, full, () -> full.transform(0, 200, 201));
        Drawn.refused("transform, too far in y and dx", ARGUMENT, full, () -> full.transform(0, -201, -200));
        full.close();
        Drawn.refused("lineTo, closed", STATE, full, () -> full.lineTo(0, 0));
        Drawn.refused("lineTo, closed and out of range", ARGUMENT, full, () -> full.lineTo(0, 101));
        StrokeOutliner empty = new StrokeOutliner();
        Drawn.refused("lineTo, no subpath", STATE, empty, () -> empty.lineTo(100, -100));
        Drawn.refused("lineTo, no subpath and out of range", ARGUMENT, empty, () -> empty.lineTo(0, -101));
        for (int side = 0; side < 4; side++) {
            int each = side;
            Drawn.refused("bounds, no pieces", STATE, empty, () -> empty.bounds(each));
        }
        Drawn.refused("bounds, no pieces and a wrong side", ARGUMENT, empty, () -> empty.bounds(4));
        Drawn.refused("bounds, no pieces and a negative side", ARGUMENT, empty, () -> empty.bounds(-1));
    }

    /** IndexOutOfBoundsException is listed first. */
    private static void indexBeforeArgument() {
        StrokeOutliner o = sample();
        for (int wrong : new int[] {-1, 4, Integer.MIN_VALUE, Integer.MAX_VALUE}) {
            Drawn.refused("subpath(3, what)", INDEX, o, () -> o.subpath(3, wrong));
            Drawn.refused("subpath(-1, what)", INDEX, o, () -> o.subpath(-1, wrong));
            Drawn.refused("run(3, 0, what)", INDEX, o, () -> o.run(3, 0, wrong));
            Drawn.refused("run(-1, 0, what)", INDEX, o, () -> o.run(-1, 0, wrong));
            Drawn.refused("run(0, 3, what)", INDEX, o, () -> o.run(0, 3, wrong));
            Drawn.refused("run(0, -1, what)", INDEX, o, () -> o.run(0, -1, wrong));
            Drawn.refused("piece(-1, what)", INDEX, o, () -> o.piece(-1, wrong));
            Drawn.refused("piece(99, what)", INDEX, o, () -> o.piece(99, wrong));
        }
        Drawn.refused("pointAt(3, too far)", INDEX, o, () -> o.pointAt(3, 999999, true));
        Drawn.refused("pointAt(3, negative)", INDEX, o, () -> o.pointAt(3, -1, true));
        Drawn.refused("pointAt(-1, too far)", INDEX, o, () -> o.pointAt(-1, 999999, true));
    }
}
