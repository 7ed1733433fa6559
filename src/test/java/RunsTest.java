/** Promises 16 to 18: the runs. */
public final class RunsTest {
    public static void main(String[] args) {
        withoutPattern();
        openSubpath();
        oddPattern();
        eachNumberOfLengths();
        boundaries();
        oneUnit();
        ringOfRuns();
        wholeRing();
        noLongerClosed();
        continuing();
        continuingAtBoundaries();
        mostRuns();
        dashed();
        exceptions();
        Check.finish();
    }

    private static void runs(String text, int phase, String due, int... lengths) {
        StrokeOutliner o = Drawn.dashed(text, phase, false, lengths);
        Check.equal(text + " with the phase " + phase, Drawn.runs(o, 0), due);
    }

    private static void withoutPattern() {
        runs("M0,0L10,0L10,10", 7, "0+1280/2");
        runs("M0,0L10,0L10,10Z", 7, "0+2185/3c");
        runs("M0,0", 7, "");
        runs("M0,0Z", 7, "");
        runs("M3,3L3,3Z", 0, "");
        runs("M3,3L3,3L4,3", 0, "0+64/1");
        runs("M3,3L4,3Z", 0, "0+128/2c");
    }

    private static void openSubpath() {
        runs("M0,0L30,0", 0, "0+640/1 960+640/1", 10, 5);
        runs("M0,0L30,0", 3, "0+448/1 768+640/1 1728+192/1", 10, 5);
        runs("M0,0L30,0", 10, "320+640/1 1280+640/1", 10, 5);
        runs("M0,0L30,0", 12, "192+640/1 1152+640/1", 10, 5);
        runs("M0,0L30,0", 15, "0+640/1 960+640/1", 10, 5);
        runs("M0,0L30,0", 600, "0+640/1 960+640/1", 10, 5);
        runs("M0,0L3,0L6,0L9,0L12,0L30,0", 0, "0+640/4 960+640/1", 10, 5);
        runs("M0,0", 0, "", 10, 5);
        runs("M0,0L20,0", 600, "0+320/1 640+320/1", 5, 5);
        runs("M0,0L20,0", 599, "64+320/1 704+320/1", 5, 5);
        // on at both ends, but open
        runs("M0,0L25,0", 0, "0+640/1 960+640/1", 10, 5);
    }

    private static void oddPattern() {
        // on 7, off 6, on 12, off 7, on 6, off 12
        runs("M0,0L60,0", 0, "0+448/1 832+768/1 2048+384/1 3200+448/1", 7, 6, 12);
        runs("M0,0L60,0", 27, "320+384/1 1472+448/1 2304+768/1 3520+320/1", 7, 6, 12);
        runs("M0,0L20,0", 0, "0+320/1 640+320/1", 5);
        runs("M0,0L20,0", 5, "320+320/1 960+320/1", 5);
        runs("M0,0L60,0", 10, "640+1280/1 2560+640/1", 10, 10, 20, 10, 10);
    }

    private static void eachNumberOfLengths() {
        runs("M0,0L50,0", 0, "0+3200/1");
        runs("M0,0L50,0", 0, "0+1280/1 2560+640/1", 20);
        runs("M0,0L50,0", 0, "0+1280/1 1664+1280/1", 20, 6);
        runs("M0,0L50,0", 0, "0+1280/1 1664+448/1", 20, 6, 7);
        runs("M0,0L50,0", 0, "0+320/1 704+448/1 1664+320/1 2368+448/1", 5, 6, 7, 8);
        runs("M0,0L75,0", 0, "0+320/1 704+448/1 1664+576/1 2560+384/1 3392+512/1 4480+320/1", 5, 6, 7, 8, 9);
        runs("M0,0L50,0", 0, "0+320/1 704+448/1 1664+576/1 2880+320/1", 5, 6, 7, 8, 9, 10);
        // the longest pattern is 600 long: the greatest phase is its beginning again
        runs("M0,0L90,0", 600, "0+5760/1", 100, 100, 100, 100, 100, 100);
        runs("M0,0L90,0", 599, "64+5696/1", 100, 100, 100, 100, 100, 100);
        runs("M0,0L90,0", 600, "0+5760/1", 100, 100, 100, 100, 100);
        runs("M0,0L90,0", 500, "", 100, 100, 100, 100, 100);
        runs("M0,0L90,0", 499, "0+64/1", 100, 100, 100, 100, 100);
    }

    /** The first segment is 2111 units long, one less than 33 * 64. */
    private static void oneUnit() {
        runs("M0,0L8,32L8,42", 0, "0+2112/2 2432+319/1", 33, 5);
        runs("M0,0L8,32L8,42", 5, "2112+320/1", 5, 33);
        runs("M0,0L8,32L8,42L8,32", 33, "320+2112/2", 33, 5, 33, 33, 5, 33);
        StrokeOutliner o = Drawn.dashed("M0,0L8,32L8,42", 0, false, 33, 5);
        Check.equal("the strip of one unit", Drawn.piece(o, 2), "0:384,2048 384,2049 640,2049 640,2048");
        // on to the last unit but one, and from the last one on
        runs("M0,0L8,32", 0, "0+2048/1", 32, 5);
        runs("M0,0L1,16", 0, "0+704/1 1024+1/1", 11, 5);
    }

    private static void boundaries() {
        // the pattern changes where a segment ends: no piece without a length
        runs("M0,0L10,0L10,5L10,15", 0, "0+640/1 960+640/1", 10, 5);
        // an on length that begins at the end of the subpath makes no run
        runs("M0,0L15,0", 0, "0+640/1", 10, 5);
        runs("M0,0L5,0", 10, "", 10, 5);
        // the segment is 1025 units long, so that a single unit is left
        runs("M0,0L1,16", 0, "0+1024/1", 16, 5);
        runs("M0,0L1,16", 0, "0+704/1 1024+1/1", 11, 5);
        runs("M0,0L1,16L1,26", 0, "0+704/1 1024+641/2", 11, 5);
        runs("M0,0L1,16Z", 0, "2048+706/2 1024+704/2", 11, 5);
    }

    private static void ringOfRuns() {
        // 4 * 640 units; the last run, from 1920, goes on over the beginning
        runs("M0,0L10,0L10,10L0,10Z", 0, "1920+1280/2 960+640/2", 10, 5);
        // on at the end only, and at the beginning only
        runs("M0,0L10,0L10,10L0,10Z", 10, "320+640/2 1280+640/1 2240+320/1", 10, 5);
        runs("M0,0L10,0L10,10L0,10Z", 66, "2496+64/1", 5, 100);
        runs("M0,0L10,0L10,10L0,10Z", 65, "", 5, 100);
        runs("M0,0L10,0L10,10L0,10Z", 5, "0+320/1 640+640/1 1600+640/2", 10, 5);
        // the last run ends exactly at the end, and the pattern is on again at the beginning
        runs("M0,0L10,0L10,10L0,10Z", 0, "2240+640/2 640+320/1 1280+640/1", 5, 5, 5, 5, 10, 5);
        // the one run ends where it would begin again, and is not closed
        runs("M0,0L10,0L10,10L0,10Z", 10, "640+2240/4", 15, 5, 95);
    }

    private static void wholeRing() {
        runs("M0,0L10,0L10,10L0,10Z", 0, "0+2560/4c", 100, 5);
        runs("M0,0L10,0L10,10L0,10Z", 60, "0+2560/4c", 100, 5);
        runs("M0,0L10,0L10,10L0,10Z", 0, "0+2560/4c", 40, 5);
        runs("M0,0L10,0L10,10L0,10Z", 0, "0+2496/4", 39, 5);
        runs("M0,0L10,0L10,10L0,10Z", 61, "0+2496/4", 100, 5);
        runs("M0,0L10,0L10,10L0,10", 0, "0+1920/3", 100, 5);
        runs("M0,0L10,0L10,10L0,10Z", 39, "", 39, 60);
    }

    /** What a run was before must not stay. */
    private static void noLongerClosed() {
        StrokeOutliner o = Drawn.path("M0,0L10,0L10,10");
        Check.equal("open", Drawn.runs(o, 0), "0+1280/2");
        o.close();
        Check.equal("closed", Drawn.runs(o, 0), "0+2185/3c");
        o.undo();
        Check.equal("open again", Drawn.runs(o, 0), "0+1280/2");
        o.close();
        o.addDash(20);
        Check.equal("dashed", Drawn.runs(o, 0), "0+1280/2");
        o.undo();
        Check.equal("closed again", Drawn.runs(o, 0), "0+2185/3c");
        o.remove(0);
        o.moveTo(0, 0);
        o.lineTo(3, 4);
        Check.equal("another one in its place", Drawn.runs(o, 0), "0+320/1");
    }

    private static void continuingAtBoundaries() {
        StrokeOutliner off = Drawn.dashed("M0,0L15,0M0,0L10,0", 0, true, 10, 5);
        Check.equal("begins where the off length has ended", Drawn.runs(off, 1), "0+640/1");
        StrokeOutliner before = Drawn.dashed("M0,0L14,0M0,0L10,0", 0, true, 10, 5);
        Check.equal("begins one before the end of the off length", Drawn.runs(before, 1), "64+576/1");
        StrokeOutliner behind = Drawn.dashed("M0,0L16,0M0,0L10,0", 0, true, 10, 5);
        Check.equal("begins one behind the end of the off length", Drawn.runs(behind, 1), "0+576/1");
        before.remove(0);
        Check.equal("the first one begins with the phase", Drawn.runs(before, 0), "0+640/1");
        StrokeOutliner dot = Drawn.dashed("M3,3M0,0L10,0", 12, true, 10, 5);
        Check.equal("behind a dot it begins with the phase", Drawn.runs(dot, 1), "192+448/1");
        // 7 units of the on length are left for the ring, which is on again from 12 to 22 and from 27 on
        StrokeOutliner ring = Drawn.dashed("M0,0L3,0M0,0L10,0L10,5L0,5Z", 0, true, 10, 5);
        Check.equal("a ring is joined", Drawn.runs(ring, 1), "1728+640/2 768+640/2");
        StrokeOutliner whole = Drawn.dashed("M0,0L60,0M0,0L10,0L10,10L0,10Z", 0, true, 100, 5);
        Check.equal("the on length ends with the ring", Drawn.runs(whole, 1), "0+2560/4c");
        StrokeOutliner cut = Drawn.dashed("M0,0L61,0M0,0L10,0L10,10L0,10Z", 0, true, 100, 5);
        Check.equal("the on length ends before the ring's end", Drawn.runs(cut, 1), "0+2496/4");
        StrokeOutliner none = Drawn.dashed("M0,0L60,0M0,0L10,0L10,10L0,10Z", 600, true);
        Check.equal("no pattern, and it continues", Drawn.runs(none, 1), "0+2560/4c");
    }

    /** 8 * 18101 units, and 320 on, 320 off: more runs there cannot be. */
    private static void mostRuns() {
        String longest = "M-100,-100" + "L100,100L-100,-100".repeat(3) + "L100,100Z";
        StrokeOutliner o = Drawn.dashed(longest, 0, false, 5);
        Check.equal("on at both ends", o.runs(0), 226);
        Check.equal("the joined one begins", o.run(0, 0, 0), 226 * 640);
        Check.equal("the joined one is as long", o.run(0, 0, 1), 8 * 18101 - 226 * 640 + 320);
        o.setDashes(3, false);
        o.addDash(5);
        Check.equal("on at the beginning only", o.runs(0), 227);
        Check.equal("the last one", o.run(0, 226, 0) + o.run(0, 226, 1), 448 + 225 * 640 + 320);
    }

    private static void continuing() {
        StrokeOutliner o = Drawn.dashed("M0,0L7,0M5,5M0,0L13,0ZM0,0L10,0", 2, true, 10, 5);
        // it begins at 2; the second subpath has no length; the others begin at 9 and at 9 + 26 - 30 = 5
        Check.equal("continuing, first", Drawn.runs(o, 0), "0+448/1");
        Check.equal("continuing, a dot", Drawn.runs(o, 1), "");
        Check.equal("continuing, third", Drawn.runs(o, 2), "1344+384/2 384+640/2");
        Check.equal("continuing, fourth", Drawn.runs(o, 3), "0+320/1");
        StrokeOutliner apart = Drawn.dashed("M0,0L7,0M5,5M0,0L13,0ZM0,0L10,0", 2, false, 10, 5);
        Check.equal("each for itself, first", Drawn.runs(apart, 0), "0+448/1");
        Check.equal("each for itself, third", Drawn.runs(apart, 2), "0+512/1 832+640/1");
        Check.equal("each for itself, fourth", Drawn.runs(apart, 3), "0+512/1");
        StrokeOutliner exact = Drawn.dashed("M0,0L10,0M0,0L10,0", 0, true, 10, 5);
        Check.equal("begins where the on length has ended", Drawn.runs(exact, 1), "320+320/1");
    }

    private static void dashed() {
        StrokeOutliner o = Drawn.dashed("M0,0L30,0M5,5M0,0L10,0L10,10L0,10Z", 0, false, 10, 5);
        Check.equal("dashed(true)", o.dashed(true), 1280 + 1920);
        Check.equal("dashed(false)", o.dashed(false), 640 + 640);
        o.setDashes(0, false);
        Check.equal("dashed(true) without a pattern", o.dashed(true), 1920 + 2560);
        Check.equal("dashed(false) without a pattern", o.dashed(false), 0);
        o.setDashes(10, false);
        o.addDash(10);
        o.addDash(100);
        Check.equal("dashed(true) where all is off", o.dashed(true), 0);
        Check.equal("dashed(false) where all is off", o.dashed(false), 1920 + 2560);
        Check.equal("dashed(true) of nothing", new StrokeOutliner().dashed(true), 0);
        Check.equal("dashed(false) of nothing", new StrokeOutliner().dashed(false), 0);
    }

    private static void exceptions() {
        StrokeOutliner o = Drawn.dashed("M0,0L30,0M5,5", 0, false, 10, 5);
        Check.index("runs(2)", () -> o.runs(2));
        Check.index("runs(-1)", () -> o.runs(-1));
        Check.index("run(2, 0, 0)", () -> o.run(2, 0, 0));
        Check.index("run(-1, 0, 0)", () -> o.run(-1, 0, 0));
        Check.index("run(0, 2, 0)", () -> o.run(0, 2, 0));
        Check.index("run(0, -1, 0)", () -> o.run(0, -1, 0));
        Check.index("run(1, 0, 0)", () -> o.run(1, 0, 0));
        Check.index("run(0, 2, 4)", () -> o.run(0, 2, 4));
        Check.argument("run(0, 1, 4)", () -> o.run(0, 1, 4));
        Check.argument("run(0, 1, -1)", () -> o.run(0, 1, -1));
    }
}
