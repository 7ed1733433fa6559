import java.lang.reflect.InvocationTargetException;
import java.lang.reflect.Method;
import java.util.regex.Matcher;
import java.util.regex.Pattern;

/** A call as a text, as the document and README.md show it: "point(0, 1, true)". */
final class WrittenCall {
    private static final Pattern FORM = Pattern.compile("(\\w+)\\((.*)\\)");

    private WrittenCall() {
    }

    /** The answer, or the name of exactly the exception that the call throws. */
    static String outcome(StrokeOutliner outliner, String call) throws IllegalAccessException {
        Matcher form = FORM.matcher(call);
        if (!form.matches()) {
            throw new IllegalArgumentException("no call: " + call);
        }
        Method method = methodOf(form.group(1));
        String[] written = form.group(2).isBlank() ? new String[0] : form.group(2).split(", ");
        Object[] arguments = new Object[written.length];
        for (int i = 0; i < written.length; i++) {
            arguments[i] = argument(written[i]);
        }
        try {
            return String.valueOf(method.invoke(outliner, arguments));
        } catch (InvocationTargetException e) {
            return e.getCause().getClass().getSimpleName();
        }
    }

    /** No two methods of the face bear one name. */
    static Method methodOf(String name) {
        for (Method method : StrokeOutliner.class.getDeclaredMethods()) {
            if (method.getName().equals(name)) {
                return method;
            }
        }
        throw new IllegalArgumentException("no method: " + name);
    }

    private static Object argument(String written) {
        if (written.equals("true") || written.equals("false")) {
            return Boolean.valueOf(written);
        }
        if (written.equals("StrokeOutliner.NONE")) {
            return StrokeOutliner.NONE;
        }
        boolean sign = written.length() == 3 && written.startsWith("'") && written.endsWith("'");
        return sign ? Integer.valueOf(written.charAt(1)) : Integer.valueOf(written);
    }
}
