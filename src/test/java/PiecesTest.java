/** Promises 19 to 22: the pieces, their corners and areas, and the bounds. */
public final class PiecesTest {
    public static void main(String[] args) {
        strips();
        rounding();
        miters();
        miterLimit();
        miterLimitExactly();
        miterLimitOne();
        noJoin();
        whereRunsEnd();
        bevelsAndDiscs();
        caps();
        dots();
        dottedDots();
        order();
        rings();
        dashedPieces();
        kinds();
        areas();
        bounds();
        exceptions();
        Check.finish();
    }

    private static StrokeOutliner styled(String path, int width, int join, int limit, int cap) {
        StrokeOutliner o = Drawn.path(path);
        o.setStyle(width, join, limit, cap);
        return o;
    }

    private static void pieces(String what, StrokeOutliner o, String... due) {
        Check.equal(what + ": the number", o.pieces(StrokeOutliner.NONE), due.length);
        for (int piece = 0; piece < due.length; piece++) {
            Check.equal(what + ": piece " + piece, Drawn.piece(o, piece), due[piece]);
        }
    }

    private static void strips() {
        pieces("to the right", styled("M0,0L10,0", 4, 0, 4, 0), "0:0,128 640,128 640,-128 0,-128");
        pieces("downwards", styled("M1,9L1,2", 1, 0, 4, 0), "0:96,576 96,128 32,128 32,576");
        pieces("aslant", styled("M0,0L3,4", 4, 0, 4, 0), "0:-102,77 90,333 294,179 102,-77");
    }

    /** The segments are 4096 units long, so that halves come up. */
    private static void rounding() {
        pieces("halves", styled("M0,0L64,1", 1, 0, 4, 2), "0:0,32 4096,96 4096,32 0,-32",
                "4:0,32 -32,31 -32,-33 0,-32", "4:4096,96 4128,97 4128,33 4096,32");
        pieces("other halves", styled("M0,0L64,-1", 1, 0, 4, 2), "0:1,32 4097,-32 4095,-96 -1,-32",
                "4:1,32 -31,32 -33,-32 -1,-32", "4:4097,-32 4129,-32 4127,-96 4095,-96");
    }

    private static void miters() {
        Check.equal("to the left", Drawn.piece(Drawn.path("M0,0L10,0L10,10"), 1), "1:640,0 640,-128 768,-128 768,0");
        Check.equal("to the right", Drawn.piece(Drawn.path("M0,0L10,0L10,-10"), 1), "1:640,0 640,128 768,128 768,0");
        // n2 = (-66, -110), so T = V - (Round(-32768 * 66 / 4680), Round(32768 * 18 / 4680))
        Check.equal("sharp, to the left", Drawn.piece(Drawn.path("M0,0L10,0L5,3"), 1),
                "1:640,0 640,-128 1102,-126 706,110");
        Check.equal("sharp, to the right", Drawn.piece(Drawn.path("M0,0L10,0L5,-3"), 1),
                "1:640,0 640,128 1102,126 706,-110");
    }

    private static void limit(String path, int limit, int kind) {
        StrokeOutliner o = styled(path, 4, 0, limit, 0);
        Check.equal(path + " with the limit " + limit, Drawn.kinds(o), "0" + kind + "0");
    }

    private static void miterLimit() {
        limit("M0,0L10,0L20,1", 1, 2);
        limit("M0,0L10,0L20,-1", 1, 2);
        limit("M0,0L10,0L10,10", 1, 2);
        limit("M0,0L10,0L10,10", 2, 1);
        // the cosines of the turns are -0.4856 and -0.5300, the limit is -1 / 2
        limit("M0,0L10,0L5,9", 2, 1);
        limit("M0,0L10,0L5,8", 2, 2);
        // -0.9798 and -0.9806, the limit is -49 / 50
        limit("M0,0L60,0L11,-10", 10, 1);
        limit("M0,0L60,0L10,-10", 10, 2);
        // -0.8575 and -0.8944, between -7 / 9 and -7 / 8 and -23 / 25
        limit("M0,0L10,0L5,3", 3, 2);
        limit("M0,0L10,0L5,3", 4, 1);
        limit("M0,0L10,0L8,1", 4, 2);
        limit("M0,0L10,0L8,1", 5, 1);
    }

    /** A root cut to a whole number would make bevels of these miters, the next number up miters of these bevels. */
    private static void miterLimitExactly() {
        limit("M0,0L6,1L3,-7", 2, 2);
        limit("M0,0L1,2L3,-7", 3, 1);
        limit("M0,0L1,0L-4,-4", 3, 2);
        limit("M0,0L19,3L8,7", 4, 1);
        limit("M0,0L24,1L22,2", 4, 2);
        limit("M0,0L20,3L7,-5", 5, 1);
        limit("M0,0L7,2L-1,3", 5, 2);
        limit("M0,0L23,1L13,4", 6, 1);
        limit("M0,0L1,0L-2,-1", 6, 2);
        limit("M0,0L2,3L-4,-2", 7, 1);
        limit("M0,0L24,1L20,2", 7, 2);
        limit("M0,0L7,3L-6,-7", 8, 1);
        limit("M0,0L35,3L29,4", 8, 2);
        limit("M0,0L18,1L11,-1", 9, 1);
        limit("M0,0L1,2L-8,-9", 9, 2);
        limit("M0,0L4,3L-4,-6", 10, 1);
        limit("M0,0L1,0L-4,-1", 10, 2);
        // the longest segments: the cosines are -0.9798 and -0.9808
        limit("M-100,0L100,0L-96,40", 10, 1);
        limit("M-100,0L100,0L-96,39", 10, 2);
    }

    /** With the limit 1 only segments that go straight on are within it, and these have no join. */
    private static void miterLimitOne() {
        limit("M0,0L1,0L1,5", 1, 2);
        limit("M0,0L1,0L0,2", 1, 2);
        limit("M0,0L1,0L0,-2", 1, 2);
        limit("M0,0L1,0L3,1", 1, 2);
        limit("M-100,0L0,0L100,1", 1, 2);
        limit("M-100,0L0,0L100,-1", 1, 2);
        limit("M-100,0L0,0L100,1", 2, 1);
        Check.equal("straight on", Drawn.kinds(styled("M-100,0L0,0L100,0", 4, 0, 1, 0)), "00");
    }

    /** A run that ends, or begins, exactly at a corner has no join there. */
    private static void whereRunsEnd() {
        for (int join = 0; join < 3; join++) {
            StrokeOutliner ends = Drawn.dashed("M0,0L10,0L10,10", 0, false, 10, 5);
            ends.setStyle(4, join, 4, 0);
            Check.equal("it ends at a corner, join " + join, Drawn.kinds(ends), "00");
            StrokeOutliner begins = Drawn.dashed("M0,0L10,0L10,10", 10, false, 10, 10);
            begins.setStyle(4, join, 4, 2);
            Check.equal("it begins at a corner, join " + join, Drawn.kinds(begins), "044");
            StrokeOutliner open = styled("M0,0L10,0L10,10L0,0", 4, join, 10, 0);
            Check.equal("an open subpath has none where it ends, join " + join, open.pieces(-1), 5);
            open.close();
            Check.equal("a closed one has one, join " + join, open.pieces(-1), 6);
        }
        Check.equal("over equal points", Drawn.kinds(styled("M0,0L10,0L10,0L10,0L10,10L10,10", 4, 0, 4, 2)), "01044");
        StrokeOutliner cut = Drawn.dashed("M0,0L10,0L10,10L0,10Z", 0, false, 39, 5);
        cut.setStyle(2, 0, 4, 2);
        Check.equal("a ring that is not whole has caps, and no join where it begins", Drawn.kinds(cut), "010101044");
        // the second run is the whole second segment, the third one goes round the corner behind it
        StrokeOutliner first = Drawn.dashed("M0,0L10,0L10,10L0,10Z", 5, false, 10, 5);
        first.setStyle(2, 0, 4, 0);
        Check.equal("on at the beginning only", Drawn.kinds(first), "0" + "0" + "010");
        // off from 2 to 7 only: the run begins and ends on the first segment, which has no join with itself
        StrokeOutliner around = Drawn.dashed("M0,0L10,0L10,10L0,10Z", 35, false, 37, 5);
        around.setStyle(2, 1, 4, 0);
        Check.equal("round the whole ring but for a gap", Drawn.runs(around, 0), "448+2240/5");
        Check.equal("a strip at either side of the gap", Drawn.kinds(around), "030303030");
    }

    private static void noJoin() {
        for (int join = 0; join < 3; join++) {
            Check.equal("straight on, join " + join, Drawn.kinds(styled("M0,0L10,5L30,15", 4, join, 4, 0)), "00");
        }
        Check.equal("back, miter", Drawn.kinds(styled("M0,0L10,5L-10,-5", 4, 0, 10, 0)), "00");
        Check.equal("back, bevel", Drawn.kinds(styled("M0,0L10,5L-10,-5", 4, 2, 10, 0)), "00");
        Check.equal("straight on by one", Drawn.kinds(styled("M0,0L1,0L2,0", 4, 1, 4, 0)), "00");
        pieces("back, round", styled("M0,0L10,0L5,0", 2, 1, 10, 0), "0:0,64 640,64 640,-64 0,-64", "3:640,0",
                "0:640,-64 320,-64 320,64 640,64");
    }

    private static void bevelsAndDiscs() {
        Check.equal("a bevel", Drawn.piece(styled("M0,0L10,0L10,10", 4, 2, 4, 0), 1), "2:640,0 640,-128 768,0");
        // the cross products are 1 and -1
        Check.equal("a small turn to the left", Drawn.piece(styled("M0,0L1,0L2,1", 4, 2, 4, 0), 1),
                "2:64,0 64,-128 155,-91");
        Check.equal("a small turn to the right", Drawn.piece(styled("M0,0L1,0L2,-1", 4, 2, 4, 0), 1),
                "2:64,0 64,128 155,91");
        Check.equal("the other bevel", Drawn.piece(styled("M0,0L10,0L10,-10", 4, 2, 4, 0), 1),
                "2:640,0 640,128 768,0");
        Check.equal("a bevel beyond the limit", Drawn.piece(styled("M0,0L10,0L10,10", 4, 0, 1, 0), 1),
                "2:640,0 640,-128 768,0");
        Check.equal("a disc", Drawn.piece(styled("M0,0L10,0L10,10", 4, 1, 4, 0), 1), "3:640,0");
    }

    private static void caps() {
        pieces("round caps", styled("M0,0L10,0L20,0", 4, 0, 4, 1), "0:0,128 640,128 640,-128 0,-128",
                "0:640,128 1280,128 1280,-128 640,-128", "3:0,0", "3:1280,0");
        StrokeOutliner square = styled("M0,0L3,4L3,9", 4, 2, 4, 2);
        Check.equal("square caps stand last", Drawn.kinds(square), "02044");
        Check.equal("the square at the beginning", Drawn.piece(square, 3), "4:-102,77 -179,-25 25,-179 102,-77");
        Check.equal("the square at the end", Drawn.piece(square, 4), "4:64,576 64,704 320,704 320,576");
    }

    private static void dots() {
        for (String path : new String[] {"M5,-5", "M5,-5Z", "M5,-5L5,-5", "M5,-5L5,-5Z"}) {
            pieces(path + " butt", styled(path, 6, 1, 4, 0));
            pieces(path + " round", styled(path, 6, 0, 4, 1), "3:320,-320");
            pieces(path + " square", styled(path, 6, 0, 4, 2), "4:128,-512 512,-512 512,-128 128,-128");
        }
        StrokeOutliner dashed = Drawn.dashed("M0,0", 10, false, 10, 100);
        dashed.setStyle(2, 0, 4, 2);
        pieces("a dot where dashing is off", dashed, "4:-64,-64 64,-64 64,64 -64,64");
    }

    /** Whatever the dash pattern is, and wherever it is when it comes to the dot. */
    private static void dottedDots() {
        for (int phase : new int[] {0, 10, 15, 599, 600}) {
            for (int cap = 0; cap < 3; cap++) {
                StrokeOutliner o = Drawn.dashed("M0,0L7,0M9,9M3,3L3,3ZM0,0L7,0", phase, true, 10, 100);
                o.setStyle(2, 0, 4, cap);
                int dots = o.pieces(-1);
                o.remove(2);
                o.remove(1);
                Check.equal("two dots, cap " + cap, dots - o.pieces(-1), cap == 0 ? 0 : 2);
            }
        }
    }

    private static void order() {
        StrokeOutliner o = styled("M0,0L10,0L10,10M7,7M0,0L5,5L9,5L9,0Z", 4, 1, 4, 1);
        Check.equal("the order of the kinds", Drawn.kinds(o), "03033" + "3" + "03030303");
        Check.equal("a cap of the first", Drawn.piece(o, 4), "3:640,640");
        Check.equal("the dot", Drawn.piece(o, 5), "3:448,448");
        Check.equal("the first join of the ring", Drawn.piece(o, 7), "3:320,320");
        o.remove(0);
        Check.equal("the order behind a removal", Drawn.kinds(o), "3" + "03030303");
    }

    private static void rings() {
        StrokeOutliner ring = styled("M0,0L10,0L10,10L0,10Z", 4, 0, 4, 2);
        Check.equal("a ring has no caps", Drawn.kinds(ring), "01010101");
        Check.equal("the join at its beginning", Drawn.piece(ring, 7), "1:0,0 -128,0 -128,-128 0,-128");
        Check.equal("there and back, miter", Drawn.kinds(styled("M0,0L10,0Z", 4, 0, 4, 2)), "00");
        Check.equal("there and back, round", Drawn.kinds(styled("M0,0L10,0Z", 4, 1, 4, 2)), "0303");
        Check.equal("a corner on a side", Drawn.kinds(styled("M5,0L10,0L10,10L0,10L0,0Z", 4, 0, 4, 2)), "010101010");
    }

    private static void dashedPieces() {
        StrokeOutliner o = Drawn.dashed("M0,0L10,0L10,10", 0, false, 12, 5);
        o.setStyle(2, 0, 4, 2);
        pieces("a run round a corner, and one cut off", o, "0:0,64 640,64 640,-64 0,-64",
                "1:640,0 640,-64 704,-64 704,0", "0:576,0 576,128 704,128 704,0", "4:0,64 -64,64 -64,-64 0,-64",
                "4:576,128 576,192 704,192 704,128", "0:576,448 576,640 704,640 704,448",
                "4:576,448 576,384 704,384 704,448", "4:576,640 576,704 704,704 704,640");
        // the last run, from 35 on, goes on over the beginning
        StrokeOutliner ring = Drawn.dashed("M0,0L10,0L10,10L0,10Z", 0, false, 5, 30);
        ring.setStyle(2, 0, 4, 1);
        pieces("a run over the beginning", ring, "0:64,320 64,0 -64,0 -64,320", "1:0,0 -64,0 -64,-64 0,-64",
                "0:0,64 320,64 320,-64 0,-64", "3:0,320", "3:320,0");
        StrokeOutliner unit = Drawn.dashed("M0,0L1,16", 0, false, 11, 5);
        Check.equal("a strip of a single unit", Drawn.piece(unit, 1), "0:-64,1031 -64,1032 192,1016 192,1015");
        StrokeOutliner whole = Drawn.dashed("M0,0L10,0L10,10L0,10Z", 0, false, 40, 5);
        whole.setStyle(2, 0, 4, 1);
        Check.equal("one dash round the whole ring", Drawn.kinds(whole), "01010101");
        // between the segments (3, 4) and (4, 3): both 320 long, the normals are those of whole segments
        StrokeOutliner aslant = Drawn.dashed("M0,0L3,4L7,7", 2, false, 6, 20);
        pieces("a part of a segment", aslant, "0:-102,77 52,282 256,128 102,-77");
    }

    private static void kinds() {
        StrokeOutliner o = styled("M0,0L10,0L10,10L0,11L10,12M5,5", 4, 0, 4, 2);
        long[] due = {4, 2, 1, 0, 3};
        for (int kind = 0; kind < 5; kind++) {
            Check.equal("pieces(" + kind + ")", o.pieces(kind), due[kind]);
        }
        Check.equal("pieces(NONE)", o.pieces(StrokeOutliner.NONE), 10);
        o.setStyle(4, 1, 4, 1);
        Check.equal("pieces(3)", o.pieces(3), 6);
        Check.argument("pieces(5)", () -> o.pieces(5));
        Check.argument("pieces(-2)", () -> o.pieces(-2));
    }

    private static void areas() {
        StrokeOutliner o = styled("M0,0L10,0L10,10M3,3", 4, 0, 4, 2);
        long[][] due = {{0, 4, 2 * 640 * 256}, {1, 4, 2 * 128 * 128}, {0, 4, 2 * 640 * 256}, {4, 4, 2 * 256 * 128},
            {4, 4, 2 * 256 * 128}, {4, 4, 2 * 256 * 256}};
        for (int piece = 0; piece < 6; piece++) {
            for (int what = 0; what < 3; what++) {
                Check.equal("piece(" + piece + ", " + what + ")", o.piece(piece, what), due[piece][what]);
            }
        }
        Check.equal("aslant", styled("M0,0L3,4", 4, 0, 4, 0).piece(0, 2), 163584);
        StrokeOutliner bevel = styled("M0,0L10,0L10,10", 4, 2, 4, 1);
        Check.equal("the corners of a bevel", bevel.piece(1, 1), 3);
        Check.equal("the area of a bevel", bevel.piece(1, 2), 128 * 128);
        Check.equal("the corners of a disc", bevel.piece(3, 1), 1);
        Check.equal("the area of a disc", bevel.piece(3, 2), 0);
        Check.equal("the greatest strip", styled("M-100,-100L100,100", 40, 0, 4, 0).piece(0, 2),
                2L * 2 * 12800 * 2 * 905);
    }

    private static void bounds(String what, StrokeOutliner o, int left, int right, int low, int high) {
        int[] due = {left, right, low, high};
        for (int side = 0; side < 4; side++) {
            Check.equal(what + ": bounds(" + side + ")", o.bounds(side), due[side]);
        }
    }

    private static void bounds() {
        bounds("a miter", Drawn.path("M0,0L10,0L10,10"), 0, 768, -128, 640);
        bounds("a strip", Drawn.path("M-3,-4L-9,-4"), -576, -192, -384, -128);
        bounds("a disc", styled("M-50,50", 6, 0, 4, 1), -3392, -3008, 3008, 3392);
        bounds("round caps", styled("M1,1L9,1", 2, 0, 4, 1), 0, 640, 0, 128);
        bounds("two subpaths", styled("M90,-90M-80,70", 2, 0, 4, 2), -5184, 5824, -5824, 4544);
        StrokeOutliner o = Drawn.path("M5,5");
        Check.state("bounds of no piece", () -> o.bounds(0));
        Check.argument("bounds(4) of no piece", () -> o.bounds(4));
        Check.argument("bounds(-1) of no piece", () -> o.bounds(-1));
        o.lineTo(6, 5);
        Check.argument("bounds(4)", () -> o.bounds(4));
        Check.equal("bounds of a piece", o.bounds(0), 320);
        o.setDashes(10, false);
        o.addDash(10);
        o.addDash(5);
        Check.state("bounds where all is off", () -> o.bounds(3));
    }

    private static void exceptions() {
        StrokeOutliner o = styled("M0,0L10,0L10,10", 4, 2, 4, 1);
        Check.index("piece(5, 0)", () -> o.piece(5, 0));
        Check.index("piece(-1, 0)", () -> o.piece(-1, 0));
        Check.index("piece(5, 3)", () -> o.piece(5, 3));
        Check.argument("piece(4, 3)", () -> o.piece(4, 3));
        Check.argument("piece(4, -1)", () -> o.piece(4, -1));
        Check.index("corner(5, 0)", () -> o.corner(5, 0, true));
        Check.index("corner(-1, 0)", () -> o.corner(-1, 0, true));
        Check.index("corner of a strip", () -> o.corner(0, 4, true));
        Check.index("corner(0, -1)", () -> o.corner(0, -1, true));
        Check.index("corner of a bevel", () -> o.corner(1, 3, true));
        Check.index("corner of a disc", () -> o.corner(3, 1, true));
        Check.index("piece of nothing", () -> new StrokeOutliner().piece(0, 0));
    }
}
