/** Promises 16 to 18: the runs. */
public final class RunsTest {
    public static void main(String[] args) {
        withoutPattern();
        openSubpath();
        oddPattern();
        boundaries();
        ringOfRuns();
        wholeRing();
        continuing();
        dashed();
        exceptions();
        Check.finish();
    }

    private static void runs(String text, int phase, String due, int... lengths) {
        StrokeOutliner o = Drawn.dashed(text, phase, false, lengths);
        Check.equal(text + " with the phase " + phase, Drawn.runs(o, 0), due);
    }

    private static void withoutPattern() {
        runs("M0,0L10,0L10,10", 7, "0+1280/2");
        runs("M0,0L10,0L10,10Z", 7, "0+2185/3c");
        runs("M0,0", 7, "");
        runs("M0,0Z", 7, "");
        runs("M3,3L3,3Z", 0, "");
        runs("M3,3L3,3L4,3", 0, "0+64/1");
        runs("M3,3L4,3Z", 0, "0+128/2c");
    }

    private static void openSubpath() {
        runs("M0,0L30,0", 0, "0+640/1 960+640/1", 10, 5);
        runs("M0,0L30,0", 3, "0+448/1 768+640/1 1728+192/1", 10, 5);
        runs("M0,0L30,0", 10, "320+640/1 1280+640/1", 10, 5);
        runs("M0,0L30,0", 12, "192+640/1 1152+640/1", 10, 5);
        runs("M0,0L30,0", 15, "0+640/1 960+640/1", 10, 5);
        runs("M0,0L30,0", 600, "0+640/1 960+640/1", 10, 5);
        runs("M0,0L3,0L6,0L9,0L12,0L30,0", 0, "0+640/4 960+640/1", 10, 5);
        runs("M0,0", 0, "", 10, 5);
        runs("M0,0L20,0", 600, "0+320/1 640+320/1", 5, 5);
        runs("M0,0L20,0", 599, "64+320/1 704+320/1", 5, 5);
        // on at both ends, but open
        runs("M0,0L25,0", 0, "0+640/1 960+640/1", 10, 5);
    }

    private static void oddPattern() {
        // on 7, off 6, on 12, off 7, on 6, off 12
        runs("M0,0L60,0", 0, "0+448/1 832+768/1 2048+384/1 3200+448/1", 7, 6, 12);
        runs("M0,0L60,0", 27, "320+384/1 1472+448/1 2304+768/1 3520+320/1", 7, 6, 12);
        runs("M0,0L20,0", 0, "0+320/1 640+320/1", 5);
        runs("M0,0L20,0", 5, "320+320/1 960+320/1", 5);
        runs("M0,0L60,0", 10, "640+1280/1 2560+640/1", 10, 10, 20, 10, 10);
    }

    private static void boundaries() {
        // the pattern changes where a segment ends: no piece without a length
        runs("M0,0L10,0L10,5L10,15", 0, "0+640/1 960+640/1", 10, 5);
        // an on length that begins at the end of the subpath makes no run
        runs("M0,0L15,0", 0, "0+640/1", 10, 5);
        runs("M0,0L5,0", 10, "", 10, 5);
        // the segment is 1025 units long, so that a single unit is left
        runs("M0,0L1,16", 0, "0+1024/1", 16, 5);
        runs("M0,0L1,16", 0, "0+704/1 1024+1/1", 11, 5);
        runs("M0,0L1,16L1,26", 0, "0+704/1 1024+641/2", 11, 5);
        runs("M0,0L1,16Z", 0, "2048+706/2 1024+704/2", 11, 5);
    }

    private static void ringOfRuns() {
        // 4 * 640 units; the last run, from 1920, goes on over the beginning
        runs("M0,0L10,0L10,10L0,10Z", 0, "1920+1280/2 960+640/2", 10, 5);
        // on at the end only, and at the beginning only
        runs("M0,0L10,0L10,10L0,10Z", 10, "320+640/2 1280+640/1 2240+320/1", 10, 5);
        runs("M0,0L10,0L10,10L0,10Z", 66, "2496+64/1", 5, 100);
        runs("M0,0L10,0L10,10L0,10Z", 65, "", 5, 100);
        runs("M0,0L10,0L10,10L0,10Z", 5, "0+320/1 640+640/1 1600+640/2", 10, 5);
        // the last run ends exactly at the end, and the pattern is on again at the beginning
        runs("M0,0L10,0L10,10L0,10Z", 0, "2240+640/2 640+320/1 1280+640/1", 5, 5, 5, 5, 10, 5);
        // the one run ends where it would begin again, and is not closed
        runs("M0,0L10,0L10,10L0,10Z", 10, "640+2240/4", 15, 5, 95);
    }

    private static void wholeRing() {
        runs("M0,0L10,0L10,10L0,10Z", 0, "0+2560/4c", 100, 5);
        runs("M0,0L10,0L10,10L0,10Z", 60, "0+2560/4c", 100, 5);
        runs("M0,0L10,0L10,10L0,10Z", 0, "0+2560/4c", 40, 5);
        runs("M0,0L10,0L10,10L0,10Z", 0, "0+2496/4", 39, 5);
        runs("M0,0L10,0L10,10L0,10Z", 61, "0+2496/4", 100, 5);
        runs("M0,0L10,0L10,10L0,10", 0, "0+1920/3", 100, 5);
        runs("M0,0L10,0L10,10L0,10Z", 39, "", 39, 60);
    }

    private static void continuing() {
        StrokeOutliner o = Drawn.dashed("M0,0L7,0M5,5M0,0L13,0ZM0,0L10,0", 2, true, 10, 5);
        // it begins at 2; the second subpath has no length; the others begin at 9 and at 9 + 26 - 30 = 5
        Check.equal("continuing, first", Drawn.runs(o, 0), "0+448/1");
        Check.equal("continuing, a dot", Drawn.runs(o, 1), "");
        Check.equal("continuing, third", Drawn.runs(o, 2), "1344+384/2 384+640/2");
        Check.equal("continuing, fourth", Drawn.runs(o, 3), "0+320/1");
        StrokeOutliner apart = Drawn.dashed("M0,0L7,0M5,5M0,0L13,0ZM0,0L10,0", 2, false, 10, 5);
        Check.equal("each for itself, first", Drawn.runs(apart, 0), "0+448/1");
        Check.equal("each for itself, third", Drawn.runs(apart, 2), "0+512/1 832+640/1");
        Check.equal("each for itself, fourth", Drawn.runs(apart, 3), "0+512/1");
        StrokeOutliner exact = Drawn.dashed("M0,0L10,0M0,0L10,0", 0, true, 10, 5);
        Check.equal("begins where the on length has ended", Drawn.runs(exact, 1), "320+320/1");
    }

    private static void dashed() {
        StrokeOutliner o = Drawn.dashed("M0,0L30,0M5,5M0,0L10,0L10,10L0,10Z", 0, false, 10, 5);
        Check.equal("dashed(true)", o.dashed(true), 1280 + 1920);
        Check.equal("dashed(false)", o.dashed(false), 640 + 640);
        o.setDashes(0, false);
        Check.equal("dashed(true) without a pattern", o.dashed(true), 1920 + 2560);
        Check.equal("dashed(false) without a pattern", o.dashed(false), 0);
        o.setDashes(10, false);
        o.addDash(10);
        o.addDash(100);
        Check.equal("dashed(true) where all is off", o.dashed(true), 0);
        Check.equal("dashed(false) where all is off", o.dashed(false), 1920 + 2560);
        Check.equal("dashed(true) of nothing", new StrokeOutliner().dashed(true), 0);
        Check.equal("dashed(false) of nothing", new StrokeOutliner().dashed(false), 0);
    }

    private static void exceptions() {
        StrokeOutliner o = Drawn.dashed("M0,0L30,0M5,5", 0, false, 10, 5);
        Check.index("runs(2)", () -> o.runs(2));
        Check.index("runs(-1)", () -> o.runs(-1));
        Check.index("run(2, 0, 0)", () -> o.run(2, 0, 0));
        Check.index("run(-1, 0, 0)", () -> o.run(-1, 0, 0));
        Check.index("run(0, 2, 0)", () -> o.run(0, 2, 0));
        Check.index("run(0, -1, 0)", () -> o.run(0, -1, 0));
        Check.index("run(1, 0, 0)", () -> o.run(1, 0, 0));
        Check.index("run(0, 2, 4)", () -> o.run(0, 2, 4));
        Check.argument("run(0, 1, 4)", () -> o.run(0, 1, 4));
        Check.argument("run(0, 1, -1)", () -> o.run(0, 1, -1));
    }
}
