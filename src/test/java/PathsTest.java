/** Promises 1 to 12: a new object, and paths. */
public final class PathsTest {
    private static final String ARGUMENT = "IllegalArgumentException";
    private static final String STATE = "IllegalStateException";
    private static final String INDEX = "IndexOutOfBoundsException";
    private static final String LONGEST = "M-100,-100" + "L100,100L-100,-100".repeat(3) + "L100,100Z";

    public static void main(String[] args) {
        newObject();
        moveTo();
        freshSubpath();
        lineTo();
        full();
        close();
        remove();
        reverse();
        simplify();
        simplifyClosed();
        simplifyAll();
        transform();
        subpath();
        lengths();
        point();
        pointAt();
        pointAtRounds();
        Check.finish();
    }

    private static void newObject() {
        StrokeOutliner o = new StrokeOutliner();
        Check.equal("new subpaths", o.subpaths(), 0);
        Check.equal("new pieces", o.pieces(StrokeOutliner.NONE), 0);
        Check.equal("new text", o.clearText(), 0);
        Check.equal("new written", o.written(0), StrokeOutliner.NONE);
        Check.state("new undo", o::undo);
        Check.equal("new dashes", o.setDashes(0, false), 0);
        Check.equal("new width", o.setStyle(1, 0, 1, 0), 4);
        Check.equal("a dot has no piece with the first cap", Drawn.path("M0,0").pieces(-1), 0);
        Check.equal("the first limit lets this corner be a miter", Drawn.path("M0,0L10,0L5,3").pieces(1), 1);
        Check.equal("the first limit makes this corner a bevel", Drawn.path("M0,0L10,0L8,1").pieces(2), 1);
        Check.equal("the first width", Drawn.piece(Drawn.path("M0,0L10,0"), 0), "0:0,128 640,128 640,-128 0,-128");
    }

    private static void moveTo() {
        StrokeOutliner o = new StrokeOutliner();
        Drawn.refused("moveTo(101, 0)", ARGUMENT, o, () -> o.moveTo(101, 0));
        Drawn.refused("moveTo(-101, 0)", ARGUMENT, o, () -> o.moveTo(-101, 0));
        Drawn.refused("moveTo(0, 101)", ARGUMENT, o, () -> o.moveTo(0, 101));
        Drawn.refused("moveTo(0, -101)", ARGUMENT, o, () -> o.moveTo(0, -101));
        Drawn.undoable("moveTo(-100, 100)", 0, o, () -> o.moveTo(-100, 100));
        Drawn.undoable("moveTo(100, -100)", 1, o, () -> o.moveTo(100, -100));
        Drawn.undoable("moveTo behind a closed one", 2, o, () -> o.moveTo(1, 2));
        Drawn.undoable("the fourth moveTo", 3, o, () -> o.moveTo(1, 2));
        Drawn.refused("a fifth moveTo", STATE, o, () -> o.moveTo(0, 0));
        Drawn.refused("a fifth moveTo(0, 101)", ARGUMENT, o, () -> o.moveTo(0, 101));
        Check.equal("moved", Drawn.text(o), "M-100,100M100,-100M1,2M1,2");
    }

    /** A subpath in the place of a closed one, or of a longer one, is open and has one point. */
    private static void freshSubpath() {
        StrokeOutliner o = Drawn.path("M1,1M2,2L3,3Z");
        o.remove(1);
        Check.equal("moveTo behind a removal", o.moveTo(4, 4), 1);
        Check.equal("the new subpath", Drawn.text(o), "M1,1M4,4");
        o.lineTo(5, 5);
        o.close();
        o.undo();
        o.undo();
        o.undo();
        Check.equal("moveTo behind an undo", o.moveTo(6, 6), 1);
        Check.equal("the new subpath again", Drawn.text(o), "M1,1M6,6");
    }

    private static void full() {
        StrokeOutliner o = Drawn.path("M1,1M2,2M3,3M4,4L5,5L6,6L7,7L8,8L9,9L10,10L11,11");
        Drawn.refused("moveTo where there are 4 subpaths", STATE, o, () -> o.moveTo(0, 0));
        Drawn.refused("lineTo where there are 8 points", STATE, o, () -> o.lineTo(0, 0));
        Drawn.undoable("close 8 points", 8, o, o::close);
        o.undo();
        o.simplify(3);
        Check.equal("lineTo where there are 2 points again", o.lineTo(0, 0), 3);
        o.remove(0);
        Check.equal("moveTo where there are 3 subpaths again", o.moveTo(0, 0), 3);
    }

    private static void lineTo() {
        StrokeOutliner o = new StrokeOutliner();
        Drawn.refused("lineTo without a subpath", STATE, o, () -> o.lineTo(0, 0));
        Drawn.refused("lineTo(101, 0) without a subpath", ARGUMENT, o, () -> o.lineTo(101, 0));
        o.moveTo(9, 9);
        o.moveTo(0, 0);
        Drawn.refused("lineTo(-101, 0)", ARGUMENT, o, () -> o.lineTo(-101, 0));
        Drawn.refused("lineTo(0, 101)", ARGUMENT, o, () -> o.lineTo(0, 101));
        Drawn.refused("lineTo(0, -101)", ARGUMENT, o, () -> o.lineTo(0, -101));
        Drawn.undoable("lineTo(100, -100)", 2, o, () -> o.lineTo(100, -100));
        Drawn.undoable("lineTo(-100, 100)", 3, o, () -> o.lineTo(-100, 100));
        for (int points = 4; points <= 8; points++) {
            Drawn.undoable("lineTo the same point", points, o, () -> o.lineTo(-100, 100));
        }
        Drawn.refused("lineTo a ninth point", STATE, o, () -> o.lineTo(0, 0));
        Drawn.refused("lineTo a wrong ninth point", ARGUMENT, o, () -> o.lineTo(0, 101));
        Check.equal("the first subpath stays", o.subpath(0, 0), 1);
        o.moveTo(0, 0);
        o.close();
        Drawn.refused("lineTo when it is closed", STATE, o, () -> o.lineTo(0, 0));
    }

    private static void close() {
        StrokeOutliner o = new StrokeOutliner();
        Drawn.refused("close without a subpath", STATE, o, o::close);
        o.moveTo(0, 0);
        Drawn.undoable("close one point", 0, o, o::close);
        Drawn.refused("close a closed one", STATE, o, o::close);
        o.moveTo(0, 0);
        o.lineTo(0, 0);
        o.lineTo(5, 0);
        o.lineTo(5, 0);
        Drawn.undoable("close with equal points", 2, o, o::close);
        o.moveTo(0, 0);
        o.lineTo(5, 0);
        o.lineTo(5, 5);
        Drawn.undoable("close a triangle", 3, o, o::close);
        o.moveTo(0, 0);
        o.lineTo(5, 0);
        o.lineTo(0, 0);
        Drawn.undoable("close where it began", 2, o, o::close);
        Check.equal("closed", Drawn.text(o), "M0,0ZM0,0L0,0L5,0L5,0ZM0,0L5,0L5,5ZM0,0L5,0L0,0Z");
    }

    private static void remove() {
        StrokeOutliner o = Drawn.path("M1,1M2,2L3,3ZM4,4L5,5L6,6M7,7Z");
        Drawn.refused("remove(4)", INDEX, o, () -> o.remove(4));
        Drawn.refused("remove(-1)", INDEX, o, () -> o.remove(-1));
        Drawn.undoable("remove(1)", 3, o, () -> o.remove(1));
        Check.equal("removed the second", Drawn.text(o), "M1,1M4,4L5,5L6,6M7,7Z");
        Drawn.undoable("remove(2)", 2, o, () -> o.remove(2));
        Check.equal("removed the last", Drawn.text(o), "M1,1M4,4L5,5L6,6");
        Drawn.undoable("remove(0)", 1, o, () -> o.remove(0));
        Check.equal("removed the first", Drawn.text(o), "M4,4L5,5L6,6");
        Check.equal("the last one is open again", o.lineTo(7, 7), 4);
        Check.equal("remove the only one", o.remove(0), 0);
        Drawn.refused("remove(0)", INDEX, o, () -> o.remove(0));
        Check.equal("a new one is empty", o.moveTo(3, 3) + o.subpath(0, 0) + o.subpath(0, 1), 1);
    }

    private static void reverse() {
        StrokeOutliner o = Drawn.path("M1,2L3,4L5,6L7,8M1,2L3,4L5,6Z");
        Drawn.refused("reverse(2)", INDEX, o, () -> o.reverse(2));
        Drawn.refused("reverse(-1)", INDEX, o, () -> o.reverse(-1));
        Drawn.undoable("reverse(0)", 4, o, () -> o.reverse(0));
        Check.equal("reversed", Drawn.text(o), "M7,8L5,6L3,4L1,2M1,2L3,4L5,6Z");
        o.reverse(0);
        Drawn.undoable("reverse(1)", 3, o, () -> o.reverse(1));
        Check.equal("reversed a closed one", Drawn.text(o), "M1,2L3,4L5,6L7,8M5,6L3,4L1,2Z");
        o.moveTo(9, 9);
        Check.equal("reverse one point", o.reverse(2), 1);
        Check.equal("a reversal that changes nothing is saved", o.undo(), 3);
    }

    private static void simplified(String text, int removed, String due) {
        StrokeOutliner o = Drawn.path(text);
        Drawn.undoable("simplify " + text, removed, o, () -> o.simplify(0));
        Check.equal("simplified " + text, Drawn.text(o), due);
    }

    private static void simplify() {
        StrokeOutliner o = Drawn.path("M0,0L1,1L2,2M0,0L1,1L2,2");
        Drawn.refused("simplify(2)", INDEX, o, () -> o.simplify(2));
        Drawn.refused("simplify(-1)", INDEX, o, () -> o.simplify(-1));
        o.simplify(1);
        Check.equal("simplified the second", Drawn.text(o), "M0,0L1,1L2,2M0,0L2,2");
        simplified("M5,5", 0, "M5,5");
        simplified("M0,0L0,0", 1, "M0,0");
        simplified("M0,0L0,0L0,0", 2, "M0,0");
        simplified("M0,0L10,0", 0, "M0,0L10,0");
        simplified("M0,0L10,0L20,0L20,10", 1, "M0,0L20,0L20,10");
        simplified("M0,0L10,0L0,0", 0, "M0,0L10,0L0,0");
        simplified("M0,0L10,0L0,0L10,0L20,0", 1, "M0,0L10,0L0,0L20,0");
        simplified("M0,0L20,0L10,0", 0, "M0,0L20,0L10,0");
        simplified("M0,0L3,2L6,4L9,6L10,7", 2, "M0,0L9,6L10,7");
        simplified("M7,-3L4,-5L1,-7", 1, "M7,-3L1,-7");
        simplified("M7,-3L4,-5L2,-7", 0, "M7,-3L4,-5L2,-7");
        simplified("M-7,3L-7,8L-7,5", 0, "M-7,3L-7,8L-7,5");
        simplified("M-7,3L-7,5L-7,8L-6,8L-3,8", 2, "M-7,3L-7,8L-3,8");
        simplified("M0,0L3,2L6,5", 0, "M0,0L3,2L6,5");
        simplified("M0,0L5,5L5,5L5,9", 1, "M0,0L5,5L5,9");
        simplified("M0,0L5,0L5,0L9,0", 2, "M0,0L9,0");
    }

    private static void simplifyClosed() {
        simplified("M5,5Z", 0, "M5,5Z");
        simplified("M0,0L0,0Z", 1, "M0,0Z");
        simplified("M0,0L10,0Z", 0, "M0,0L10,0Z");
        simplified("M5,0L10,0L10,10L0,10L0,0Z", 1, "M10,0L10,10L0,10L0,0Z");
        simplified("M0,0L10,0L10,10L0,10L0,5Z", 1, "M0,0L10,0L10,10L0,10Z");
        simplified("M0,0L10,0L10,10L0,0Z", 1, "M10,0L10,10L0,0Z");
        simplified("M0,0L10,0L5,0Z", 1, "M0,0L10,0Z");
        simplified("M5,0L10,0L0,0Z", 1, "M10,0L0,0Z");
        simplified("M1,1L1,1L1,1L1,1Z", 3, "M1,1Z");
    }

    private static void simplifyAll() {
        simplified("M3,3L3,3L3,3L3,3L3,3L3,3L3,3L3,3", 7, "M3,3");
        simplified("M3,3L3,3L3,3L3,3L3,3L3,3L3,3L3,3Z", 7, "M3,3Z");
        simplified("M0,0L1,2L2,4L3,6L4,8L5,10L6,12L7,14", 6, "M0,0L7,14");
        simplified("M0,0L1,2L2,4L3,6L4,8L5,10L6,12L7,14Z", 6, "M0,0L7,14Z");
        // the last point equals the one before it, in the open subpath the first one has no point before it
        simplified("M4,4L9,9L9,9", 1, "M4,4L9,9");
        simplified("M4,4L9,1L4,4", 0, "M4,4L9,1L4,4");
        simplified("M4,4L9,1L4,4Z", 1, "M9,1L4,4Z");
        // on the line through them, but not between them
        simplified("M0,0L-1,0L5,0", 0, "M0,0L-1,0L5,0");
        simplified("M0,0L0,6L0,5", 0, "M0,0L0,6L0,5");
        // hardly beside the line
        simplified("M-100,-100L0,1L100,100", 0, "M-100,-100L0,1L100,100");
        simplified("M-100,-100L0,0L100,100", 1, "M-100,-100L100,100");
    }

    private static void transform() {
        StrokeOutliner o = Drawn.path("M10,20L-30,40ZM1,-2");
        Drawn.refused("transform(4, 0, 0)", ARGUMENT, o, () -> o.transform(4, 0, 0));
        Drawn.refused("transform(-1, 0, 0)", ARGUMENT, o, () -> o.transform(-1, 0, 0));
        Drawn.refused("transform(0, 201, 0)", ARGUMENT, o, () -> o.transform(0, 201, 0));
        Drawn.refused("transform(0, -201, 0)", ARGUMENT, o, () -> o.transform(0, -201, 0));
        Drawn.refused("transform(0, 0, 201)", ARGUMENT, o, () -> o.transform(0, 0, 201));
        Drawn.refused("transform(0, 0, -201)", ARGUMENT, o, () -> o.transform(0, 0, -201));
        Drawn.refused("transform(0, 91, 0)", STATE, o, () -> o.transform(0, 91, 0));
        Drawn.refused("transform(0, -71, 0)", STATE, o, () -> o.transform(0, -71, 0));
        Drawn.refused("transform(0, 0, 61)", STATE, o, () -> o.transform(0, 0, 61));
        Drawn.refused("transform(0, 0, -99)", STATE, o, () -> o.transform(0, 0, -99));
        Drawn.refused("transform(4, 200, 0)", ARGUMENT, o, () -> o.transform(4, 200, 0));
        moved(0, 90, 60, "M100,80L60,100ZM91,58");
        moved(0, -70, -98, "M-60,-78L-100,-58ZM-69,-100");
        moved(0, 0, 0, "M10,20L-30,40ZM1,-2");
        moved(1, 5, 7, "M-15,17L-35,-23ZM7,8");
        moved(2, 5, 7, "M-5,-13L35,-33ZM4,9");
        moved(3, 5, 7, "M25,-3L45,37ZM3,6");
        StrokeOutliner empty = new StrokeOutliner();
        Drawn.undoable("transform nothing far", 0, empty, () -> empty.transform(3, 200, -200));
        StrokeOutliner corner = Drawn.path("M-100,-100");
        Check.equal("transform across", corner.transform(0, 200, 200), 1);
        Check.equal("transformed across", Drawn.text(corner), "M100,100");
    }

    private static void moved(int quarters, int dx, int dy, String due) {
        StrokeOutliner o = Drawn.path("M10,20L-30,40ZM1,-2");
        Drawn.undoable("transform to " + due, 3, o, () -> o.transform(quarters, dx, dy));
        Check.equal("transformed", Drawn.text(o), due);
    }

    private static void subpath() {
        StrokeOutliner o = Drawn.path("M0,0L3,4L3,4L4,5M7,7ZM0,0L-100,100L100,-100Z");
        Check.equal("subpaths", o.subpaths(), 3);
        long[][] due = {{4, 0, 2, 320 + 90}, {1, 1, 0, 0}, {3, 1, 3, 9050 + 18101 + 9050}};
        for (int subpath = 0; subpath < 3; subpath++) {
            for (int what = 0; what < 4; what++) {
                Check.equal("subpath(" + subpath + ", " + what + ")", o.subpath(subpath, what), due[subpath][what]);
            }
        }
        Check.argument("subpath(0, 4)", () -> o.subpath(0, 4));
        Check.argument("subpath(0, -1)", () -> o.subpath(0, -1));
        Check.index("subpath(3, 0)", () -> o.subpath(3, 0));
        Check.index("subpath(-1, 0)", () -> o.subpath(-1, 0));
        Check.index("subpath(3, 4)", () -> o.subpath(3, 4));
        Check.equal("length before", o.subpath(0, 3), 410);
        o.remove(0);
        Check.equal("length behind a removal", o.subpath(0, 3), 0);
    }

    /** Root: the greatest number whose square is at most the other. */
    private static void lengths() {
        Check.equal("a square", Drawn.path("M0,0L3,4").subpath(0, 3), 320);
        // 4096 * 2 is between 90 * 90 and 91 * 91
        Check.equal("between two squares", Drawn.path("M0,0L1,1").subpath(0, 3), 90);
        // 4096 * 1088 is 2112 * 2112 - 4096, and 2111 * 2111 + 127
        Check.equal("below a square", Drawn.path("M0,0L8,32").subpath(0, 3), 2111);
        Check.equal("the shortest segment", Drawn.path("M0,0L0,-1").subpath(0, 3), 64);
        Check.equal("the longest segment", Drawn.path("M-100,100L100,-100").subpath(0, 3), 18101);
        Check.equal("the sum of roots", Drawn.path("M0,0L1,1L2,2").subpath(0, 3), 180);
        Check.equal("the longest subpath", Drawn.path(LONGEST).subpath(0, 3), 8 * 18101);
        Check.equal("all of its segments", Drawn.path(LONGEST).subpath(0, 2), 8);
    }

    private static void point() {
        StrokeOutliner o = Drawn.path("M1,-2L3,4M-100,100Z");
        Check.equal("point(0, 0, x)", o.point(0, 0, false), 1);
        Check.equal("point(0, 0, y)", o.point(0, 0, true), -2);
        Check.equal("point(0, 1, x)", o.point(0, 1, false), 3);
        Check.equal("point(0, 1, y)", o.point(0, 1, true), 4);
        Check.equal("point(1, 0, x)", o.point(1, 0, false), -100);
        Check.equal("point(1, 0, y)", o.point(1, 0, true), 100);
        Check.index("point(0, 2)", () -> o.point(0, 2, false));
        Check.index("point(0, -1)", () -> o.point(0, -1, false));
        Check.index("point(1, 1)", () -> o.point(1, 1, true));
        Check.index("point(2, 0)", () -> o.point(2, 0, false));
        Check.index("point(-1, 0)", () -> o.point(-1, 0, true));
    }

    private static void at(StrokeOutliner o, int subpath, int distance, int x, int y) {
        Check.equal("pointAt(" + subpath + ", " + distance + ", x)", o.pointAt(subpath, distance, false), x);
        Check.equal("pointAt(" + subpath + ", " + distance + ", y)", o.pointAt(subpath, distance, true), y);
    }

    private static void pointAt() {
        StrokeOutliner o = Drawn.path("M10,10L10,10L13,14L13,15ZM0,0L-99,99M-5,6ZM0,0L1,1");
        at(o, 0, 0, 640, 640);
        at(o, 0, 160, 736, 768);
        at(o, 0, 320, 832, 896);
        at(o, 0, 321, 832, 897);
        at(o, 0, 384, 832, 960);
        // back over (-3, -5), 373 units long: Round(-192 / 373) = -1 and Round(-320 / 373) = -1
        at(o, 0, 385, 831, 959);
        at(o, 0, 384 + 373, 640, 640);
        // -49.5 and 49.5 are both rounded upwards
        at(o, 1, 70, -49, 50);
        at(o, 1, 8960, -6336, 6336);
        at(o, 2, 0, -320, 384);
        // 64 / 90 and 64 * 89 / 90
        at(o, 3, 1, 1, 1);
        at(o, 3, 89, 63, 63);
        Check.argument("pointAt beyond the end", () -> o.pointAt(0, 758, false));
        Check.argument("pointAt before the beginning", () -> o.pointAt(0, -1, true));
        Check.argument("pointAt without segments", () -> o.pointAt(2, 1, true));
        Check.index("pointAt(4, 0)", () -> o.pointAt(4, 0, true));
        Check.index("pointAt(-1, -1)", () -> o.pointAt(-1, -1, true));
        StrokeOutliner longest = Drawn.path(LONGEST);
        at(longest, 0, 18101, 6400, 6400);
        at(longest, 0, 7 * 18101, 6400, 6400);
        at(longest, 0, 8 * 18101, -6400, -6400);
        Check.argument("pointAt beyond the longest", () -> longest.pointAt(0, 8 * 18101 + 1, false));
        StrokeOutliner equal = Drawn.path("M7,-7L7,-7Z");
        at(equal, 0, 0, 448, -448);
        Check.argument("pointAt beyond equal points", () -> equal.pointAt(0, 1, false));
    }

    /** All the lengths are 143: 62 * 128 / 143 is 55.4965, 81 * 128 / 143 is 72.5035, and for 64 27.7 and 36.3. */
    private static void pointAtRounds() {
        StrokeOutliner o = Drawn.path("M0,0L2,1M0,0L-2,1M0,0L-2,-1M0,0L2,-1");
        at(o, 0, 62, 55, 28);
        at(o, 0, 81, 73, 36);
        at(o, 1, 62, -55, 28);
        at(o, 1, 81, -73, 36);
        at(o, 2, 62, -55, -28);
        at(o, 2, 81, -73, -36);
        at(o, 3, 62, 55, -28);
        at(o, 3, 81, 73, -36);
        // 19 * 64 / 143 is 8.5035, hardly beyond a half
        StrokeOutliner steep = Drawn.path("M0,0L1,2M0,0L-1,2");
        at(steep, 0, 19, 9, 17);
        at(steep, 1, 19, -9, 17);
        // 64 * 99 * 70 / 8960 is 49.5: the greater one of two
        StrokeOutliner half = Drawn.path("M0,0L99,99M0,0L-99,-99");
        at(half, 0, 70, 50, 50);
        at(half, 1, 70, -49, -49);
    }
}
