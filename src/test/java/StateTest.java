/** Promises 30 and 31: undo and the digest. */
public final class StateTest {
    public static void main(String[] args) {
        undoDepth();
        undoStyle();
        undoText();
        undoAfterFailures();
        undoOfNoChange();
        notUndoable();
        fourOfEach();
        newDigest();
        digests();
        Check.finish();
    }

    private static void undoDepth() {
        StrokeOutliner o = new StrokeOutliner();
        Check.state("undo of nothing", o::undo);
        o.moveTo(1, 1);
        for (int x = 2; x <= 7; x++) {
            o.lineTo(x, 1);
        }
        for (int left = 3; left >= 0; left--) {
            Check.equal("undo", o.undo(), left);
            Check.equal("points that are left", o.subpath(0, 0), left + 3);
        }
        Drawn.refused("a fifth undo", "IllegalStateException", o, o::undo);
        o.lineTo(9, 9);
        Check.equal("undo one more", o.undo(), 0);
        Check.equal("its path", Drawn.text(o), "M1,1L2,1L3,1");
    }

    private static void undoStyle() {
        StrokeOutliner o = Drawn.path("M0,0L100,0L100,100");
        o.setStyle(9, 1, 7, 2);
        o.setDashes(11, true);
        o.addDash(50);
        // two of the four saved states are dropped, and their number ends the digest
        long before = o.digest() - 2;
        o.setDashes(0, false);
        o.addDash(60);
        o.undo();
        Check.equal("undo the change of dashes", o.undo(), 2);
        Check.equal("the dashes are back", o.digest(), before);
        o.setStyle(3, 2, 1, 0);
        Check.equal("undo the change of the style", o.undo(), 2);
        Check.equal("the style is back", o.digest(), before);
        Check.equal("the width is back", o.bounds(0), -288);
        Check.equal("undo the dash", o.undo(), 1);
        Check.equal("no dash is left", Drawn.runs(o, 0), "0+12800/2");
    }

    private static void undoText() {
        StrokeOutliner o = new StrokeOutliner();
        Drawn.write(o, "M1,1");
        o.parse();
        Drawn.write(o, "M2,2L3,3");
        o.parse();
        Check.equal("undo a parse", o.undo(), 1);
        Check.equal("the path before it", Drawn.text(o), "M1,1");
        Check.equal("the text stays", o.clearText(), 8);
        Check.equal("undo the first parse", o.undo(), 0);
        Check.equal("no path", o.subpaths(), 0);
    }

    private static void undoAfterFailures() {
        StrokeOutliner o = new StrokeOutliner();
        o.moveTo(0, 0);
        Check.argument("lineTo", () -> o.lineTo(101, 0));
        Check.state("transform", () -> o.transform(0, 101, 0));
        Check.index("remove", () -> o.remove(1));
        Check.argument("setStyle", () -> o.setStyle(0, 0, 0, 0));
        Check.argument("setDashes", () -> o.setDashes(601, true));
        Check.argument("addDash", () -> o.addDash(1));
        Check.equal("only the moveTo is saved", o.undo(), 0);
    }

    /** A call that changes nothing saves a state all the same. */
    private static void undoOfNoChange() {
        saves("reverse", o -> o.reverse(0));
        saves("simplify", o -> o.simplify(0));
        saves("transform", o -> o.transform(0, 0, 0));
        saves("setStyle", o -> o.setStyle(4, 0, 4, 0));
        saves("setDashes", o -> o.setDashes(0, false));
        saves("parse", StrokeOutliner::parse);
    }

    private interface Change {
        long answer(StrokeOutliner o);
    }

    private static StrokeOutliner dot() {
        StrokeOutliner o = new StrokeOutliner();
        Drawn.write(o, "M5,5");
        o.moveTo(5, 5);
        return o;
    }

    private static void saves(String call, Change change) {
        StrokeOutliner o = dot();
        long before = o.digest();
        change.answer(o);
        Check.equal(call + " changes nothing but the saved states", o.digest(), before + 1);
        Check.equal(call + " can be undone", o.undo(), 1);
        Check.equal(call + ", undone", o.digest(), before);
        Check.equal("the moveTo can be undone", o.undo(), 0);
        Check.equal("the moveTo, undone", o.subpaths(), 0);
    }

    /** These save no state: the one that the undo restores is that from before the lineTo. */
    private static void notUndoable() {
        StrokeOutliner o = dot();
        o.lineTo(9, 9);
        o.append('X');
        o.parse();
        o.clearText();
        o.subpaths();
        o.subpath(0, 3);
        o.point(0, 1, true);
        o.pointAt(0, 9, true);
        o.runs(0);
        o.run(0, 0, 1);
        o.dashed(true);
        o.pieces(0);
        o.piece(0, 2);
        o.corner(0, 3, false);
        o.bounds(3);
        o.covering(0, 0);
        o.covered(0, 0, 20, 20);
        o.nearest(0, 0);
        o.written(3);
        o.digest();
        Check.equal("only the lineTo is undone", o.undo(), 1);
        Check.equal("it has left one point", o.subpath(0, 0), 1);
        Check.equal("an undo saves nothing", o.undo(), 0);
        Check.state("no more is saved", o::undo);
        Check.equal("the text is the one that was left", o.clearText(), 0);
    }

    /** The fifth state drops the oldest one, whichever calls have saved them. */
    private static void fourOfEach() {
        StrokeOutliner o = Drawn.path("M0,0L3,0L6,0");
        o.setStyle(5, 1, 5, 1);
        o.setDashes(6, true);
        o.addDash(7);
        o.simplify(0);
        o.close();
        o.remove(0);
        Check.equal("four are saved", o.undo(), 3);
        Check.equal("the path from before the remove", Drawn.text(o), "M0,0L6,0Z");
        Check.equal("the next one", o.undo(), 2);
        Check.equal("the path from before the close", Drawn.text(o), "M0,0L6,0");
        Check.equal("one more", o.undo(), 1);
        Check.equal("the path from before the simplify", Drawn.text(o), "M0,0L3,0L6,0");
        Check.equal("the dashes are still there", Drawn.runs(o, 0), "0+64/1");
        Check.equal("the last one", o.undo(), 0);
        Check.equal("no dashes", Drawn.runs(o, 0), "0+384/2");
        Check.equal("the style is older", o.setStyle(1, 0, 1, 0), 5);
        Check.equal("a new one is saved", o.undo(), 0);
        Check.state("the dropped ones are gone", o::undo);
    }

    private static long hash(long... values) {
        long h = 2903;
        for (long v : values) {
            h = 31 * h + v;
        }
        return h;
    }

    private static void newDigest() {
        Check.equal("the digest of a new object", new StrokeOutliner().digest(),
                hash(0, 4, 0, 4, 0, 0, 0, 0, 0, 0, 0));
        StrokeOutliner o = new StrokeOutliner();
        o.append(65);
        o.setStyle(5, 2, 3, 1);
        o.setDashes(17, true);
        o.addDash(8);
        o.addDash(9);
        Check.equal("the digest of a style", o.digest(), hash(1, 5, 2, 3, 1, 17, 1, 2, 8, 9, 0, 0, 4));
    }

    private static void digests() {
        StrokeOutliner o = new StrokeOutliner();
        o.moveTo(0, 0);
        o.lineTo(2, 0);
        long[] due = {0, 4, 0, 4, 0, 0, 0, 0, 1, 2, 0, 1, 128, 0, 0, 2, 0, 1, 0, 128, 1, 0, 1, 0, 0, 128, 128, 128,
            128, -128, 0, -128, 2};
        Check.equal("the digest of a segment", o.digest(), hash(due));
        o.setStyle(2, 0, 4, 1);
        o.close();
        long[] closed = {0, 2, 0, 4, 1, 0, 0, 0, 1, 2, 1, 2, 256, 0, 0, 2, 0, 1, 0, 256, 2, 1, 2, 0, 0, 64, 128, 64,
            128, -64, 0, -64, 0, 128, -64, 0, -64, 0, 64, 128, 64, 4};
        Check.equal("the digest of a closed subpath", o.digest(), hash(closed));
        StrokeOutliner runs = Drawn.dashed("M0,0L15,0", 0, false, 5);
        long[] dashed = {9, 4, 0, 4, 0, 0, 0, 1, 5, 1, 2, 0, 1, 960, 0, 0, 15, 0, 2, 0, 320, 1, 0, 640, 320, 1, 0, 2,
            0, 0, 128, 320, 128, 320, -128, 0, -128, 0, 640, 128, 960, 128, 960, -128, 640, -128, 3};
        Check.equal("the digest with two runs", runs.digest(), hash(dashed));
        o.setDashes(0, false);
        o.moveTo(3, 3);
        long[] dot = {0, 2, 0, 4, 1, 0, 0, 0, 2, 2, 1, 2, 256, 0, 0, 2, 0, 1, 0, 256, 2, 1, 1, 0, 0, 0, 3, 3, 0, 3, 0,
            0, 64, 128, 64, 128, -64, 0, -64, 0, 128, -64, 0, -64, 0, 64, 128, 64, 3, 192, 192, 4};
        Check.equal("the digest with a dot", o.digest(), hash(dot));
    }
}
