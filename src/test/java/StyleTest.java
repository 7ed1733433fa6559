/** Promises 13 to 15: the style. */
public final class StyleTest {
    private static final String ARGUMENT = "IllegalArgumentException";
    private static final String STATE = "IllegalStateException";

    public static void main(String[] args) {
        initialStyle();
        setStyle();
        styleCounts();
        setDashes();
        addDash();
        Check.finish();
    }

    /** What "initially" says, each of it. */
    private static void initialStyle() {
        StrokeOutliner o = new StrokeOutliner();
        Check.equal("initially no dashes", o.addDash(20), 1);
        o.moveTo(0, 0);
        o.lineTo(30, 0);
        o.moveTo(0, 0);
        o.lineTo(30, 0);
        Check.equal("initially the phase is 0", Drawn.runs(o, 0), "0+1280/1");
        Check.equal("initially dashing does not continue", Drawn.runs(o, 1), "0+1280/1");
        StrokeOutliner plain = new StrokeOutliner();
        plain.moveTo(0, 0);
        plain.lineTo(10, 0);
        plain.lineTo(10, 10);
        plain.lineTo(2, 11);
        plain.lineTo(10, 11);
        Check.equal("initially butt caps, miters up to 4", Drawn.kinds(plain), "0101020");
        Check.equal("initially 4 wide", plain.bounds(2), -128);
    }

    private static void setStyle() {
        StrokeOutliner o = Drawn.path("M0,0L10,0L10,10M20,20");
        int[][] wrong = {{0, 0, 1, 0}, {41, 0, 1, 0}, {-5, 0, 1, 0}, {1, -1, 1, 0}, {1, 3, 1, 0}, {1, 0, 0, 0},
            {1, 0, 11, 0}, {1, 0, 1, -1}, {1, 0, 1, 3}};
        for (int[] w : wrong) {
            Drawn.refused("a wrong style", ARGUMENT, o, () -> o.setStyle(w[0], w[1], w[2], w[3]));
        }
        Drawn.undoable("setStyle(40, 2, 10, 2)", 4, o, () -> o.setStyle(40, 2, 10, 2));
        Drawn.undoable("setStyle(1, 0, 1, 0)", 40, o, () -> o.setStyle(1, 0, 1, 0));
        Drawn.undoable("setStyle(1, 0, 1, 0) again", 1, o, () -> o.setStyle(1, 0, 1, 0));
    }

    private static void styleCounts() {
        StrokeOutliner o = Drawn.path("M0,0L10,0L10,10M20,20");
        o.setStyle(40, 2, 10, 2);
        Check.equal("bevel joins, square caps", Drawn.kinds(o), "020444");
        Check.equal("the widest", o.bounds(0), -1280);
        o.setStyle(1, 1, 10, 0);
        Check.equal("round joins, butt caps", Drawn.kinds(o), "030");
        Check.equal("the narrowest", o.bounds(2), -32);
        o.setStyle(1, 0, 1, 1);
        Check.equal("miter joins beyond the limit, round caps", Drawn.kinds(o), "020333");
        o.setStyle(1, 0, 2, 1);
        Check.equal("miter joins, round caps", Drawn.kinds(o), "010333");
    }

    private static void setDashes() {
        StrokeOutliner o = Drawn.dashed("M0,0L100,0M0,0L100,0", 0, false, 10, 7, 9);
        Drawn.refused("setDashes(-1)", ARGUMENT, o, () -> o.setDashes(-1, true));
        Drawn.refused("setDashes(601)", ARGUMENT, o, () -> o.setDashes(601, false));
        Drawn.undoable("setDashes(600, true)", 3, o, () -> o.setDashes(600, true));
        Check.equal("no pattern is left", Drawn.runs(o, 0), "0+6400/1");
        Drawn.undoable("setDashes(600, true) again", 0, o, () -> o.setDashes(600, true));
        o.addDash(90);
        o.addDash(80);
        // the phase is 90 into the pattern of 170; the second subpath begins 100 later, at 20
        Check.equal("a phase of 600", Drawn.runs(o, 0), "5120+1280/1");
        Check.equal("a phase that continues", Drawn.runs(o, 1), "0+4480/1");
        Drawn.undoable("setDashes(600, false)", 2, o, () -> o.setDashes(600, false));
        o.addDash(90);
        o.addDash(80);
        Check.equal("a phase that begins again", Drawn.runs(o, 1), "5120+1280/1");
    }

    private static void addDash() {
        StrokeOutliner o = Drawn.path("M0,0L100,0");
        Drawn.refused("addDash(4)", ARGUMENT, o, () -> o.addDash(4));
        Drawn.refused("addDash(101)", ARGUMENT, o, () -> o.addDash(101));
        int[] lengths = {5, 100, 6, 7, 8, 9};
        for (int i = 0; i < 6; i++) {
            int length = lengths[i];
            Drawn.undoable("addDash(" + length + ")", i + 1, o, () -> o.addDash(length));
        }
        Drawn.refused("a seventh dash", STATE, o, () -> o.addDash(5));
        Drawn.refused("a wrong seventh dash", ARGUMENT, o, () -> o.addDash(101));
        Check.equal("the lengths are in force", Drawn.runs(o, 0), "0+320/1");
        Check.equal("all of them are emptied", o.setDashes(0, false), 6);
        Check.equal("and the first one is new", o.addDash(20) + o.runs(0), 4);
    }
}
