/** Promises 26 to 29: the path text, and the path written as one. */
public final class TextTest {
    public static void main(String[] args) {
        append();
        clearText();
        parsed();
        parsedAgain();
        longest();
        faults();
        faultsOfNumbers();
        tooMany();
        parseState();
        written();
        Check.finish();
    }

    private static void append() {
        StrokeOutliner o = new StrokeOutliner();
        Drawn.refused("append(-1)", "IllegalArgumentException", o, () -> o.append(-1));
        Drawn.refused("append(128)", "IllegalArgumentException", o, () -> o.append(128));
        for (int length = 1; length <= 150; length++) {
            Check.equal("append", o.append(length % 2 == 0 ? 0 : 127), length);
        }
        Drawn.refused("append a byte too many", "IllegalStateException", o, () -> o.append(77));
        Drawn.refused("append a wrong byte too many", "IllegalArgumentException", o, () -> o.append(128));
        Check.state("append is not undoable", o::undo);
    }

    private static void clearText() {
        StrokeOutliner o = new StrokeOutliner();
        Drawn.write(o, "M1,1");
        Check.equal("clearText", o.clearText(), 4);
        Check.equal("clearText again", o.clearText(), 0);
        Check.equal("append to the empty text", o.append('M'), 1);
        Check.equal("parse the new text", o.parse(), -11);
        Check.state("clearText is not undoable", o::undo);
    }

    private static void parsed(String text, int subpaths, String due) {
        StrokeOutliner o = new StrokeOutliner();
        Drawn.write(o, text);
        Check.equal("parse " + text, o.parse(), subpaths);
        Check.equal("parsed " + text, Drawn.text(o), due);
    }

    private static void parsed() {
        parsed("", 0, "");
        parsed("M1,2", 1, "M1,2");
        parsed("M1,2Z", 1, "M1,2Z");
        parsed("M-100,100L100,-100Z", 1, "M-100,100L100,-100Z");
        parsed("M007,-09L-0,000L010,-001", 1, "M7,-9L0,0L10,-1");
        parsed("M1,2L3,4ZM5,6M7,8L9,10L11,12", 3, "M1,2L3,4ZM5,6M7,8L9,10L11,12");
        parsed("M0,0M0,0ZM0,0M0,0Z", 4, "M0,0M0,0ZM0,0M0,0Z");
        parsed("M0,0L1,0L2,0L3,0L4,0L5,0L6,0L7,0Z", 1, "M0,0L1,0L2,0L3,0L4,0L5,0L6,0L7,0Z");
    }

    /** Nothing is left of the text that was read before. */
    private static void parsedAgain() {
        StrokeOutliner o = Drawn.path("M1,1L2,2ZM3,3L4,4Z");
        Drawn.write(o, "M5,5M6,6L7,7L8,8");
        Check.equal("open subpaths in place of closed ones", o.parse(), 2);
        Check.equal("they are open", Drawn.text(o), "M5,5M6,6L7,7L8,8");
        Drawn.write(o, "M9,9L8,8ZM7,7L6,6Z!");
        Check.equal("a text with a fault", o.parse(), -28);
        Drawn.write(o, "M1,2");
        Check.equal("a path in place of it", o.parse(), 1);
        Check.equal("it is open", Drawn.text(o), "M1,2");
        Check.equal("the same path again", o.parse(), 1);
        Check.equal("is saved, too", o.undo(), 3);
        StrokeOutliner full = Drawn.path("M0,0M0,0M0,0M0,0");
        Drawn.write(full, "M1,1ZM2,2ZM3,3ZM4,4Z");
        Check.equal("a full path in place of a full one", full.parse(), 4);
        Check.equal("it is the new one", Drawn.text(full), "M1,1ZM2,2ZM3,3ZM4,4Z");
        Drawn.write(full, "");
        Check.equal("an empty path in place of a full one", full.parse(), 0);
        Check.equal("it is empty", full.subpaths(), 0);
    }

    /** Texts of 150 bytes: a path, one that ends too early, and one with its fault in the last byte. */
    private static void longest() {
        String most = "M-100,-100" + "L-100,-100".repeat(7) + "ZM-100,-100" + "L-100,-100".repeat(5);
        Check.equal("141 bytes", most.length(), 141);
        parsed(most + "L-10,-10Z", 2, most + "L-10,-10Z");
        parsed(most + "L-100,100", 2, most + "L-100,100");
        parsed(most + "L-100,-99", 2, most + "L-100,-99");
        String[] ends = {"L-100,10M", "L-100,10L", "L-100,10!X", "L-100,10!,", "L-10,101!1", "L-100,!101",
            "L-10,!-101"};
        for (String end : ends) {
            fault(most + end);
        }
    }

    /** The position is that of the "!", or the length of the text if there is none. */
    private static void fault(String marked) {
        String text = marked.replace("!", "");
        int position = marked.contains("!") ? marked.indexOf('!') : text.length();
        StrokeOutliner o = Drawn.path("M9,9L8,8");
        Drawn.write(o, text);
        long before = o.digest();
        Check.equal("parse " + marked, o.parse(), -10 - position);
        Check.equal("parse " + marked + " leaves the path", Drawn.text(o), "M9,9L8,8");
        Check.equal("parse " + marked + " changes nothing", o.digest(), before);
    }

    private static void faults() {
        String[] marked = {"M", "M1", "M1,", "M1,2L", "M1,2L3", "M1,2L3,", "M-", "M1,-", "!L1,1", "!Z", "! ", "!m1,1",
            "!1,2", "M!,1", "M!Z", "M! 1,2", "M1! ,2", "M1,! 2", "M1,2! L3,4", "M1!;2", "M1,2Z!Z", "M1,2Z!L3,4",
            "M1,2Z! ", "M1,2!,3", "M1,2L!L3,4", "M1,2M!M", "M1,2!-3", "M!+1,2", "M1!.5,2", "M-!-1,2", "M-!,1", "M1!-,2",
            "M1,!", "M1,2!X", "M1,2L3,4!z", "M1,2M", "M1,2Z!1", "M1,2!/", "M1,2!:", "M1!/,2", "M1!:,2", "M!/", "M!:",
            "!\0", "!\177", "M1,2!\0", "M1,2!\177", "M1,2Z!\0", "M!\0", "M1!\0", "M1,!\177", "!N1,2", "M1,2!K3,4",
            "M1,2!Y", "M1,2![", "M1!+,2", "M1,2L3,4L!L", "M1,2L3,4ZM5,6!l7,8", "M-1!-", "M-!-", "M1,-!-"};
        for (String text : marked) {
            fault(text);
        }
    }

    private static void faultsOfNumbers() {
        String[] marked = {"M!101,2", "M!-101,2", "M1,!101", "M1,!-101", "M1,2L!999,1", "M1,2L3,!-999Z", "M100!0,2",
            "M123!4,2", "M-000!1,2", "M1,000!1", "M1,-123!4", "M!101", "M!-999", "M!101x", "M1,!101x", "M1,!200-"};
        for (String text : marked) {
            fault(text);
        }
    }

    private static void tooMany() {
        fault("M0,0M0,0M0,0M0,0!M0,0");
        fault("M0,0ZM0,0ZM0,0ZM0,0Z!M");
        fault("M0,0M0,0M0,0M0,0Z!X");
        fault("M0,0L1,0L2,0L3,0L4,0L5,0L6,0L7,0!L8,0");
        fault("M0,0L1,0L2,0L3,0L4,0L5,0L6,0L7,0!L");
        fault("M0,0L1,0L2,0L3,0L4,0L5,0L6,0L7,0Z!L");
        fault("M0,0M0,0L1,0L2,0L3,0L4,0L5,0L6,0L7,0!L8,0");
    }

    private static void parseState() {
        StrokeOutliner o = Drawn.dashed("M1,1L50,1", 3, true, 10, 5);
        o.setStyle(7, 2, 3, 1);
        Drawn.write(o, "M2,2L3,3Z");
        Drawn.undoable("parse", 1, o, o::parse);
        Check.equal("the style stays", o.setStyle(7, 2, 3, 1), 7);
        Check.equal("the dashes stay", o.addDash(5), 3);
        Check.equal("the text stays", o.clearText(), 9);
        Check.equal("an empty text", o.parse(), 0);
        Check.equal("empties the path", o.subpaths(), 0);
        Check.equal("and can be undone", o.undo(), 3);
        Check.equal("to what it was", Drawn.text(o), "M2,2L3,3Z");
        StrokeOutliner fresh = new StrokeOutliner();
        Drawn.write(fresh, "M1,1L");
        fresh.parse();
        Check.state("a fault saves no state", fresh::undo);
    }

    private static void written() {
        StrokeOutliner o = new StrokeOutliner();
        Check.equal("written of nothing", o.written(0), StrokeOutliner.NONE);
        for (int subpath = 0; subpath < 4; subpath++) {
            o.moveTo(-100, -100);
            for (int point = 0; point < 7; point++) {
                o.lineTo(-100, -100);
            }
            o.close();
        }
        String one = "M-100,-100" + "L-100,-100".repeat(7) + "Z";
        Check.equal("the longest text", Drawn.text(o), one.repeat(4));
        Check.equal("its last byte", o.written(323), 'Z');
        Check.equal("behind it", o.written(324), StrokeOutliner.NONE);
        Check.equal("far behind it", o.written(Integer.MAX_VALUE), StrokeOutliner.NONE);
        Check.argument("written(-1)", () -> o.written(-1));
        Check.argument("written of the least index", () -> o.written(Integer.MIN_VALUE));
        StrokeOutliner numbers = new StrokeOutliner();
        int[] values = {0, 5, -5, 10, -10, 99, -99, 100};
        numbers.moveTo(values[0], values[7]);
        for (int i = 1; i < 8; i++) {
            numbers.lineTo(values[i], values[7 - i]);
        }
        Check.equal("numbers", Drawn.text(numbers), "M0,100L5,-99L-5,99L10,-10L-10,10L99,-5L-99,5L100,0");
    }
}
