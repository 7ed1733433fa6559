/** Promises 23 to 25: points against the stroke, and against the points of the path. */
public final class CoveringTest {
    public static void main(String[] args) {
        strips();
        joinsAndCaps();
        flatPieces();
        hardly();
        dashes();
        covered();
        nearest();
        Check.finish();
    }

    private static void strips() {
        StrokeOutliner o = Drawn.path("M0,0L10,0");
        int[][] due = {{0, 0, 1}, {0, 128, 1}, {0, -128, 1}, {640, 128, 1}, {640, -128, 1}, {-1, 0, 0}, {641, 0, 0},
            {300, 129, 0}, {300, -129, 0}, {20000, 20000, 0}, {-20000, -20000, 0}};
        for (int[] d : due) {
            Check.equal("covering(" + d[0] + ", " + d[1] + ")", o.covering(d[0], d[1]), d[2]);
        }
        StrokeOutliner aslant = Drawn.path("M0,0L10,10");
        // n = (-91, 91), rounded from 90.6: the edge goes through (-91, 91) and (549, 731)
        Check.equal("on a slanting edge", aslant.covering(209, 391), 1);
        Check.equal("beside a slanting edge", aslant.covering(208, 391), 0);
        Check.equal("in the box, not in the strip", aslant.covering(0, 640), 0);
        Check.equal("in the box, on the other side", aslant.covering(640, 0), 0);
        // the strip's edge goes from (-102, 77) by (154, 205): the cross products are 1 and -1
        StrokeOutliner close = Drawn.dashed("M0,0L3,4L7,7", 2, false, 6, 20);
        Check.equal("hardly beside an edge", close.covering(-99, 81), 0);
        Check.equal("hardly inside of an edge", close.covering(49, 278), 1);
        Check.argument("covering(20001, 0)", () -> o.covering(20001, 0));
        Check.argument("covering(-20001, 0)", () -> o.covering(-20001, 0));
        Check.argument("covering(0, 20001)", () -> o.covering(0, 20001));
        Check.argument("covering(0, -20001)", () -> o.covering(0, -20001));
        Check.equal("covering of nothing", new StrokeOutliner().covering(0, 0), 0);
    }

    private static void joinsAndCaps() {
        StrokeOutliner o = Drawn.path("M0,0L10,0L10,10");
        Check.equal("the corner itself", o.covering(640, 0), 3);
        Check.equal("the inner side", o.covering(600, 40), 2);
        Check.equal("the miter", o.covering(767, -127), 1);
        Check.equal("its tip", o.covering(768, -128), 1);
        Check.equal("beyond its tip", o.covering(769, -128), 0);
        o.setStyle(4, 2, 4, 2);
        Check.equal("on the bevel's edge", o.covering(704, -64), 1);
        Check.equal("beyond the bevel's edge", o.covering(705, -64), 0);
        Check.equal("in the square cap", o.covering(-128, 128), 1);
        Check.equal("strip and square cap", o.covering(0, 0), 2);
        o.setStyle(4, 1, 4, 1);
        Check.equal("on the disc's edge", o.covering(-128, 0), 1);
        Check.equal("beyond the disc's edge", o.covering(-129, 0), 0);
        // 77^2 + 102^2 = 16333 and 77^2 + 103^2 = 16538, the radius squared is 16384
        Check.equal("in the join's disc", o.covering(640 + 77, -102), 1);
        Check.equal("not in the join's disc", o.covering(640 + 77, -103), 0);
        Check.equal("in the last cap", o.covering(640 - 77, 640 + 102), 1);
    }

    /** The normals of both segments come out as (0, 32) and (0, -32): the bevel has no area, and its line no end. */
    private static void flatPieces() {
        StrokeOutliner o = Drawn.path("M0,0L100,0L-100,1");
        o.setStyle(1, 2, 4, 0);
        Check.equal("the flat bevel", Drawn.piece(o, 1), "2:6400,0 6400,-32 6400,32");
        Check.equal("the strips and the bevel", o.covering(6400, 32), 3);
        Check.equal("on the bevel's line, beyond it", o.covering(6400, 33), 0);
        Check.equal("on the bevel's line, far beyond it", o.covering(6400, -9000), 0);
        StrokeOutliner upwards = Drawn.path("M0,0L0,100L1,-100");
        upwards.setStyle(1, 2, 4, 0);
        Check.equal("the other flat bevel", Drawn.piece(upwards, 1), "2:0,6400 -32,6400 32,6400");
        Check.equal("the strips and the other bevel", upwards.covering(-32, 6400), 3);
        Check.equal("left of the other bevel", upwards.covering(-33, 6400), 0);
        Check.equal("right of the other bevel", upwards.covering(33, 6400), 0);
    }

    /** One unit beside the edge, or inside of it, where the edges go round the other way than those of a strip. */
    private static void hardly() {
        StrokeOutliner cap = Drawn.path("M0,0L3,4");
        cap.setStyle(4, 0, 4, 2);
        Check.equal("the first cap", Drawn.piece(cap, 1), "4:-102,77 -179,-25 25,-179 102,-77");
        Check.equal("the cross product is -1", cap.covering(-139, 28), 0);
        Check.equal("the cross product is 1", cap.covering(-142, 24), 1);
        Check.equal("its corner", cap.covering(-179, -25), 1);
        Check.equal("left of its corner", cap.covering(-180, -25), 0);
        Check.equal("its other corner", cap.covering(25, -179), 1);
        Check.equal("below its other corner", cap.covering(25, -180), 0);
        StrokeOutliner disc = Drawn.path("M0,0");
        disc.setStyle(40, 0, 4, 1);
        int[][] due = {{1280, 0, 1}, {1280, 1, 0}, {1281, 0, 0}, {-1280, 0, 1}, {-1280, -1, 0}, {0, 1280, 1},
            {0, -1281, 0}, {768, 1024, 1}, {768, 1025, 0}, {-769, 1024, 0}, {768, -1024, 1}, {-20000, 20000, 0}};
        for (int[] d : due) {
            Check.equal("the disc at " + d[0] + ", " + d[1], disc.covering(d[0], d[1]), d[2]);
        }
        StrokeOutliner widest = Drawn.path("M-100,-100L100,100L-100,-99L100,99");
        widest.setStyle(40, 0, 10, 2);
        Check.equal("far off", widest.covering(20000, -20000) + widest.covering(-20000, 20000), 0);
    }

    private static void dashes() {
        StrokeOutliner o = Drawn.dashed("M0,0L30,0", 0, false, 10, 5);
        Check.equal("on a dash", o.covering(640, 0), 1);
        Check.equal("between the dashes", o.covering(641, 0), 0);
        Check.equal("before the next dash", o.covering(959, 0), 0);
        Check.equal("on the next dash", o.covering(960, 0), 1);
    }

    private static void covered() {
        StrokeOutliner o = Drawn.path("M0,0L10,0");
        Check.equal("all around", o.covered(-5, -5, 20, 20), 11 * 5);
        Check.equal("some columns", o.covered(3, -9, 4, 20), 5 * 5);
        Check.equal("some rows", o.covered(-3, 1, 20, 4), 11 * 2);
        Check.equal("one point that is covered", o.covered(10, -2, 0, 0), 1);
        Check.equal("one point that is not", o.covered(11, -2, 0, 0), 0);
        Check.equal("a corner of it", o.covered(10, 2, 20, 20), 1);
        Check.equal("the sum over overlapping pieces", Drawn.path("M0,0L10,0L0,0L10,0").covered(-5, -5, 20, 20), 55);
        o.transform(1, 100, -100 + 90);
        Check.equal("at the edge of the coordinates", o.covered(100, -10, 20, 20), 3 * 11);
        o.transform(2, 0, 0);
        Check.equal("at the other edge", o.covered(-100, 0, 20, 20), 3 * 11);
        StrokeOutliner narrow = Drawn.path("M-7,-7L-1,-7");
        narrow.setStyle(1, 0, 4, 1);
        Check.equal("between the points", narrow.covered(-10, -10, 20, 20), 7);
        StrokeOutliner disc = Drawn.path("M0,0");
        disc.setStyle(10, 0, 4, 1);
        Check.equal("the points of a disc", disc.covered(-10, -10, 20, 20), 81);
        disc.setStyle(40, 0, 4, 1);
        Check.equal("a rectangle in a disc", disc.covered(-10, -10, 20, 20), 441);
        disc.setStyle(1, 0, 4, 1);
        Check.equal("nothing is left of the last answer", disc.covered(-10, -10, 20, 20), 1);
        Check.equal("in the last row and column", disc.covered(-20, -20, 20, 20), 1);
        Check.equal("in the first row and column", disc.covered(0, 0, 20, 20), 1);
        rectangles();
        int[][] wrong = {{101, 0, 0, 0}, {-101, 0, 0, 0}, {0, 101, 0, 0}, {0, -101, 0, 0}, {0, 0, -1, 0},
            {0, 0, 21, 0}, {0, 0, 0, -1}, {0, 0, 0, 21}};
        for (int[] w : wrong) {
            Check.argument("a wrong rectangle", () -> o.covered(w[0], w[1], w[2], w[3]));
        }
        Check.equal("covered of nothing", new StrokeOutliner().covered(-100, 100, 20, 20), 0);
    }

    /** A stroke from (60, 70), 10 long and 4 wide, and its mirror images: x + width and y + height count. */
    private static void rectangles() {
        for (int sx = -1; sx <= 1; sx += 2) {
            for (int sy = -1; sy <= 1; sy += 2) {
                StrokeOutliner o = new StrokeOutliner();
                o.moveTo(60 * sx, 70 * sy);
                o.lineTo(70 * sx, 70 * sy);
                int left = sx > 0 ? 60 : -70;
                int low = 70 * sy - 2;
                String what = "a stroke at " + left + ", " + low;
                Check.equal(what + ", all of it", o.covered(left - 5, low - 8, 20, 20), 11 * 5);
                Check.equal(what + ", just all of it", o.covered(left, low, 10, 4), 11 * 5);
                Check.equal(what + ", without an end", o.covered(left + 1, low, 9, 4), 10 * 5);
                Check.equal(what + ", without the other end", o.covered(left, low, 9, 4), 10 * 5);
                Check.equal(what + ", without a side", o.covered(left, low + 1, 10, 3), 11 * 4);
                Check.equal(what + ", without the other side", o.covered(left, low, 10, 3), 11 * 4);
                Check.equal(what + ", one corner", o.covered(left - 20, low - 20, 20, 20), 1);
                Check.equal(what + ", the other corner", o.covered(left + 10, low + 4, 20, 20), 1);
                Check.equal(what + ", left of it", o.covered(left - 21, low, 20, 20), 0);
                Check.equal(what + ", above it", o.covered(left, low + 5, 20, 20), 0);
            }
        }
    }

    private static void nearest() {
        StrokeOutliner o = new StrokeOutliner();
        Check.equal("nearest of nothing", o.nearest(0, 0), StrokeOutliner.NONE);
        o.moveTo(-100, -100);
        Check.equal("nearest of one, far", o.nearest(100, 100), 80000);
        Check.equal("nearest, the point itself", o.nearest(-100, -100), 0);
        o.lineTo(10, 0);
        o.moveTo(20, 7);
        Check.equal("nearest of the first subpath", o.nearest(13, 4), 25);
        Check.equal("nearest of the second subpath", o.nearest(16, 4), 25);
        Check.equal("nearest is to points, not to segments", o.nearest(-45, -50), 5525);
        int[][] wrong = {{101, 0}, {-101, 0}, {0, 101}, {0, -101}};
        for (int[] w : wrong) {
            Check.argument("a wrong point", () -> o.nearest(w[0], w[1]));
        }
    }
}
