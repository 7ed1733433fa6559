import java.lang.reflect.Constructor;
import java.lang.reflect.Field;
import java.lang.reflect.Method;
import java.lang.reflect.Modifier;
import java.nio.file.Files;
import java.nio.file.Path;
import java.util.Arrays;
import java.util.Set;
import java.util.TreeSet;
import java.util.regex.Pattern;

/** The public face, and what of ../shared/LANGUAGE.md can be seen from outside or from the text of the class. */
public final class FaceTest {
    private static final String FACE = "addDash(int) append(int) bounds(int) clearText() close() corner(int,int,boolean)"
            + " covered(int,int,int,int) covering(int,int) dashed(boolean) digest() lineTo(int,int) moveTo(int,int)"
            + " nearest(int,int) parse() piece(int,int) pieces(int) point(int,int,boolean) pointAt(int,int,boolean)"
            + " remove(int) reverse(int) run(int,int,int) runs(int) setDashes(int,boolean) setStyle(int,int,int,int)"
            + " simplify(int) subpath(int,int) subpaths() transform(int,int,int) undo() written(int)";

    public static void main(String[] args) throws Exception {
        face();
        classesInside();
        for (Class<?> each : StrokeOutliner.class.getDeclaredClasses()) {
            staticFields(each);
        }
        staticFields(StrokeOutliner.class);
        String text = Files.readString(Path.of("src/main/java/StrokeOutliner.java"));
        declarations(text, Files.readString(Path.of("../shared/DOC.md")));
        source(text);
        Check.finish();
    }

    private static void face() {
        Set<String> seen = new TreeSet<>();
        Set<String> names = new TreeSet<>();
        for (Method method : StrokeOutliner.class.getDeclaredMethods()) {
            if (!Modifier.isPrivate(method.getModifiers())) {
                String types = Arrays.toString(Arrays.stream(method.getParameterTypes()).map(Class::getName).toArray());
                seen.add(method.getName() + "(" + types.replaceAll("[\\[\\] ]", "") + ")");
                names.add(method.getName());
                boolean wide = method.getName().equals("piece") || method.getName().equals("digest");
                Check.equal(method.getName() + " answers", method.getReturnType().getName(), wide ? "long" : "int");
            }
        }
        Check.equal("the methods", String.join(" ", seen), FACE);
        for (Method method : StrokeOutliner.class.getDeclaredMethods()) {
            boolean hidden = Modifier.isPrivate(method.getModifiers()) && names.contains(method.getName());
            Check.equal("a private method " + method.getName(), hidden ? 1 : 0, 0);
        }
        Check.equal("NONE", StrokeOutliner.NONE, -1);
        Constructor<?>[] constructors = StrokeOutliner.class.getDeclaredConstructors();
        Check.equal("constructors", constructors.length, 1);
        Check.equal("the constructor", constructors[0].toString(), "public StrokeOutliner()");
        Check.equal("the class", Modifier.toString(StrokeOutliner.class.getModifiers()), "public final");
        for (Field field : StrokeOutliner.class.getDeclaredFields()) {
            boolean open = !Modifier.isPrivate(field.getModifiers()) && !field.getName().equals("NONE");
            Check.equal("the field " + field.getName() + " is open", open ? 1 : 0, 0);
        }
    }

    /** Each line of the document's face stands in the class, with the names of the parameters and the exceptions. */
    private static void declarations(String text, String document) {
        String written = text.replaceAll("\\s+", " ");
        String block = document.substring(document.indexOf("```java") + 7, document.indexOf("}\n```"));
        int declared = 0;
        for (String line : block.split("\n")) {
            if (!line.isBlank()) {
                String wanted = line.trim().replaceAll("\\);$", ") {").replaceAll("Exception;$", "Exception {");
                Check.equal("the class has " + wanted, written.contains(" " + wanted + " ") ? 1 : 0, 1);
                declared++;
            }
        }
        Check.equal("the class, a constant, a constructor and the methods", declared, 33);
    }

    private static void classesInside() {
        Class<?>[] inside = StrokeOutliner.class.getDeclaredClasses();
        Check.equal("at most twelve classes", inside.length < 12 ? 1 : 0, 1);
        for (Class<?> each : inside) {
            int open = each.getModifiers() & (Modifier.PUBLIC | Modifier.PROTECTED);
            Check.equal(each.getName() + " is open", open, 0);
            Check.equal(each.getName() + " is static", Modifier.isStatic(each.getModifiers()) ? 1 : 0, 1);
            for (Method method : each.getDeclaredMethods()) {
                boolean borrowed = FACE.matches("(.* )?" + method.getName() + "\\(.*");
                Check.equal(each.getName() + " has a method " + method.getName(), borrowed ? 1 : 0, 0);
            }
            Field[] all = each.getDeclaredFields();
            long fields = Arrays.stream(all).filter(f -> !Modifier.isStatic(f.getModifiers())).count();
            Check.equal(each.getName() + " has at most twenty fields", fields <= 20 ? 1 : 0, 1);
        }
    }

    private static void staticFields(Class<?> each) {
        for (Field field : each.getDeclaredFields()) {
            if (Modifier.isStatic(field.getModifiers())) {
                Check.equal(field + " is final", Modifier.isFinal(field.getModifiers()) ? 1 : 0, 1);
                Check.equal(field + " is a number", field.getType().getName(), "int");
            }
        }
    }

    private static void source(String text) {
        String[] unwanted = {"\\bimport\\b", "\\bpackage\\b", "->", "::", "\\bfinally\\b", "\\bsynchronized\\b",
            "\\bassert\\b", "Exact\\(", "\\bObject\\b", "\\bcatch\\b", "\\binstanceof\\b", "\\bdouble\\b", "\\bfloat\\b",
            "\\bRandom\\b", "\\bThread\\b", "\\bSystem\\.(?!arraycopy\\()", "\\bInteger\\.(?!bitCount\\()",
            "\\bMath\\.(?!(min|max|abs|floorDiv)\\()", "[^\\x00-\\x7f]"};
        for (String pattern : unwanted) {
            Check.equal("the class has " + pattern, Pattern.compile(pattern).matcher(text).find() ? 1 : 0, 0);
        }
    }
}
