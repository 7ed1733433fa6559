/** The greatest drawings: the rows of the program must hold them, and the model must agree. */
public final class LimitsTest {
    public static void main(String[] args) {
        for (int join = 0; join < 3; join++) {
            for (int cap = 0; cap < 3; cap++) {
                longest(join, cap, 0, false);
                longest(join, cap, 3, true);
            }
        }
        twoLengths();
        memory();
        Check.finish();
    }

    private static void longest(int join, int cap, int phase, boolean continues) {
        StrokeOutliner o = new StrokeOutliner();
        Model m = new Model();
        for (int subpath = 0; subpath < 4; subpath++) {
            o.moveTo(-100, -100);
            m.moveTo(-100, -100);
            for (int point = 1; point < 8; point++) {
                int end = point % 2 == 0 ? -100 : 100;
                o.lineTo(end, end);
                m.lineTo(end, end);
            }
            o.close();
            m.close();
        }
        o.setStyle(40, join, 10, cap);
        m.setStyle(40, join, 10, cap);
        o.setDashes(phase, continues);
        m.setDashes(phase, continues);
        o.addDash(5);
        m.addDash(5);
        String what = "the longest path, join " + join + ", cap " + cap + ", phase " + phase;
        Check.equal(what + ": digest", o.digest(), m.digest());
        Check.equal(what + ": runs", o.runs(3), m.runs(3));
        Check.equal(what + ": dashed", o.dashed(false), m.dashed(false));
        Check.equal(what + ": covering", o.covering(0, 0), m.covering(0, 0));
        Check.equal(what + ": covered", o.covered(-20, 0, 20, 20), m.covered(-20, 0, 20, 20));
        Check.equal(what + ": bounds", o.bounds(1), m.bounds(1));
    }

    private static void twoLengths() {
        StrokeOutliner o = Drawn.path("M-100,-100L100,100L-100,99L100,98L-100,97L99,100L-100,-99L100,99Z");
        Model m = new Model();
        int[][] points = {{-100, -100}, {100, 100}, {-100, 99}, {100, 98}, {-100, 97}, {99, 100}, {-100, -99}, {100, 99}};
        m.moveTo(points[0][0], points[0][1]);
        for (int i = 1; i < 8; i++) {
            m.lineTo(points[i][0], points[i][1]);
        }
        m.close();
        for (int phase = 0; phase <= 600; phase += 7) {
            o.setDashes(phase, false);
            m.setDashes(phase, false);
            for (int length : new int[] {5, 6, 5}) {
                o.addDash(length);
                m.addDash(length);
            }
            Check.equal("runs with the phase " + phase, o.runs(0), m.runs(0));
            Check.equal("the first one", o.run(0, 0, 0) + o.run(0, 0, 1), m.run(0, 0, 0) + m.run(0, 0, 1));
            Check.equal("dashed", o.dashed(true), m.dashed(true));
        }
    }

    /** 512 of the dearest calls must not need more room than one object: all rows are made once. */
    private static void memory() {
        StrokeOutliner o = Drawn.dashed("M-100,-100L100,100L-100,99L100,98L-100,97L99,100L-100,-99Z", 0, true, 5);
        Runtime runtime = Runtime.getRuntime();
        System.gc();
        long before = runtime.totalMemory() - runtime.freeMemory();
        for (int call = 0; call < 256; call++) {
            o.setStyle(1 + call % 40, call % 3, 1 + call % 10, call % 3);
            o.digest();
        }
        long after = runtime.totalMemory() - runtime.freeMemory();
        Check.equal("less than 8 million bytes are made", after - before < 8_000_000 ? 1 : 0, 1);
    }
}
