/** Small helpers that the tests share: objects made from a path text, and calls that must change nothing. */
final class Drawn {
    private Drawn() {
    }

    static void write(StrokeOutliner outliner, String text) {
        outliner.clearText();
        for (int i = 0; i < text.length(); i++) {
            outliner.append(text.charAt(i));
        }
    }

    static StrokeOutliner path(String text) {
        StrokeOutliner outliner = new StrokeOutliner();
        write(outliner, text);
        if (outliner.parse() < 0) {
            throw new IllegalArgumentException(text);
        }
        return outliner;
    }

    static StrokeOutliner dashed(String text, int phase, boolean continues, int... lengths) {
        StrokeOutliner outliner = path(text);
        outliner.setDashes(phase, continues);
        for (int length : lengths) {
            outliner.addDash(length);
        }
        return outliner;
    }

    static String text(StrokeOutliner outliner) {
        StringBuilder text = new StringBuilder();
        for (int i = 0; outliner.written(i) != StrokeOutliner.NONE; i++) {
            text.append((char) outliner.written(i));
        }
        return text.toString();
    }

    /** All values of runs: "begin+length/pieces", with a "c" behind a closed one. */
    static String runs(StrokeOutliner outliner, int subpath) {
        StringBuilder text = new StringBuilder();
        for (int run = 0; run < outliner.runs(subpath); run++) {
            text.append(run > 0 ? " " : "").append(outliner.run(subpath, run, 0)).append('+');
            text.append(outliner.run(subpath, run, 1)).append('/').append(outliner.run(subpath, run, 2));
            text.append(outliner.run(subpath, run, 3) == 1 ? "c" : "");
        }
        return text.toString();
    }

    /** "kind:x,y x,y .." */
    static String piece(StrokeOutliner outliner, int piece) {
        StringBuilder text = new StringBuilder().append(outliner.piece(piece, 0)).append(':');
        for (int corner = 0; corner < outliner.piece(piece, 1); corner++) {
            text.append(corner > 0 ? " " : "").append(outliner.corner(piece, corner, false)).append(',');
            text.append(outliner.corner(piece, corner, true));
        }
        return text.toString();
    }

    static String kinds(StrokeOutliner outliner) {
        StringBuilder text = new StringBuilder();
        for (int piece = 0; piece < outliner.pieces(StrokeOutliner.NONE); piece++) {
            text.append(outliner.piece(piece, 0));
        }
        return text.toString();
    }

    /** The call throws this exception, and neither the state nor the number of saved states changes. */
    static void refused(String what, String exception, StrokeOutliner outliner, Check.Call call) {
        long before = outliner.digest();
        Check.equal(what, Check.outcome(call), exception);
        Check.equal(what + " changes nothing", outliner.digest(), before);
    }

    /**
     * The call answers this, and one undo brings back the state from before it, but for the oldest of four saved
     * states: the digest ends with their number.
     */
    static void undoable(String what, long due, StrokeOutliner outliner, Check.Call call) {
        String path = text(outliner);
        long before = outliner.digest();
        Check.equal(what, Check.outcome(call), String.valueOf(due));
        String left = Check.outcome(outliner::undo);
        Check.equal(what + " can be undone: " + left, left.matches("[0-3]") ? 1 : 0, 1);
        Check.equal(what + ", undone: the path", text(outliner), path);
        boolean dropped = left.equals("3") && outliner.digest() == before - 1;
        Check.equal(what + ", undone: the digest", dropped ? before : outliner.digest(), before);
        call.answer();
    }
}
