import java.nio.file.Files;
import java.nio.file.Path;
import java.util.regex.Matcher;
import java.util.regex.Pattern;

/** The five examples of the document: copied here, and once more as they stand in the document itself. */
public final class ExamplesTest {
    public static void main(String[] args) throws Exception {
        asWritten(Files.readString(Path.of("../shared/DOC.md")));
        segmentsWithMiter();
        dashPattern();
        dashPatternWithPhase();
        onePoint();
        errors();
        Check.finish();
    }

    /** An example is "1. Its title: call = answer; call = throws SomeException." */
    private static void asWritten(String document) throws Exception {
        int from = document.indexOf("\nExamples: ");
        int to = document.indexOf("\nThe constants:");
        String text = document.substring(from, to).replaceAll("\\s+", " ");
        Matcher example = Pattern.compile(" (\\d)\\. [^:]*: ([^.]*)\\.").matcher(text);
        int examples = 0;
        int calls = 0;
        while (example.find()) {
            examples++;
            StrokeOutliner o = new StrokeOutliner();
            for (String row : example.group(2).split("; ")) {
                String[] sides = row.split(" = ");
                String due = sides[1].replace("throws ", "");
                Check.equal("example " + example.group(1) + ": " + sides[0], WrittenCall.outcome(o, sides[0]), due);
                calls++;
            }
        }
        Check.equal("the examples of the document", examples, 5);
        Check.equal("their calls", calls, 39);
    }

    private static void segmentsWithMiter() {
        StrokeOutliner o = new StrokeOutliner();
        Check.equal("1 moveTo", o.moveTo(0, 0), 0);
        Check.equal("1 lineTo", o.lineTo(10, 0), 2);
        Check.equal("1 lineTo", o.lineTo(10, 10), 3);
        Check.equal("1 pieces(-1)", o.pieces(-1), 3);
        Check.equal("1 pieces(1)", o.pieces(1), 1);
        Check.equal("1 corner x", o.corner(1, 2, false), 768);
        Check.equal("1 corner y", o.corner(1, 2, true), -128);
        Check.equal("1 covering", o.covering(768, -128), 1);
        Check.equal("1 covered", o.covered(0, 0, 12, 12), 79);
    }

    private static void dashPattern() {
        StrokeOutliner o = new StrokeOutliner();
        Check.equal("2 moveTo", o.moveTo(0, 0), 0);
        Check.equal("2 lineTo", o.lineTo(30, 0), 2);
        Check.equal("2 addDash", o.addDash(10), 1);
        Check.equal("2 addDash", o.addDash(5), 2);
        Check.equal("2 runs", o.runs(0), 2);
        Check.equal("2 run begin", o.run(0, 1, 0), 960);
        Check.equal("2 run length", o.run(0, 1, 1), 640);
        Check.equal("2 dashed", o.dashed(false), 640);
    }

    private static void dashPatternWithPhase() {
        StrokeOutliner o = new StrokeOutliner();
        Check.equal("3 moveTo", o.moveTo(0, 0), 0);
        Check.equal("3 lineTo", o.lineTo(20, 0), 2);
        Check.equal("3 lineTo", o.lineTo(20, 20), 3);
        Check.equal("3 close", o.close(), 3);
        Check.equal("3 setDashes", o.setDashes(5, false), 0);
        Check.equal("3 addDash", o.addDash(10), 1);
        Check.equal("3 addDash", o.addDash(5), 2);
        Check.equal("3 runs", o.runs(0), 5);
        Check.equal("3 run begin", o.run(0, 0, 0), 0);
        Check.equal("3 run length", o.run(0, 0, 1), 320);
    }

    private static void onePoint() {
        StrokeOutliner o = new StrokeOutliner();
        Check.equal("4 moveTo", o.moveTo(5, 5), 0);
        Check.equal("4 setStyle", o.setStyle(6, 0, 4, 2), 4);
        Check.equal("4 pieces(4)", o.pieces(4), 1);
        Check.equal("4 corner", o.corner(0, 0, false), 128);
        Check.equal("4 setStyle", o.setStyle(6, 0, 4, 0), 6);
        Check.equal("4 pieces(-1)", o.pieces(-1), 0);
    }

    private static void errors() {
        StrokeOutliner o = new StrokeOutliner();
        Check.equal("5 append", o.append(77), 1);
        Check.equal("5 append", o.append(49), 2);
        Check.equal("5 parse", o.parse(), -12);
        Check.argument("5 addDash", () -> o.addDash(4));
        Check.state("5 bounds", () -> o.bounds(0));
        Check.state("5 undo", o::undo);
    }
}
