import java.io.IOException;
import java.lang.reflect.InvocationTargetException;
import java.lang.reflect.Method;
import java.nio.file.Files;
import java.nio.file.Path;
import java.util.ArrayList;
import java.util.List;
import java.util.regex.Matcher;
import java.util.regex.Pattern;

/** README.md tells the truth: its calls answer what it says, and it names the whole face of the document. */
final class ReadmeTest {
    private static final Path README = Path.of("README.md");
    private static final Path DOCUMENT = Path.of("../shared/DOC.md");
    private static final Pattern CALL = Pattern.compile("(?m)^water\\.(\\w+)\\(([^)]*)\\);\\s*// (-?\\d+)(?::.*)?$");

    public static void main(String[] args) throws IOException, IllegalAccessException, InvocationTargetException {
        String readme = Files.readString(README);
        String document = Files.readString(DOCUMENT);
        example(readme);
        namesTheFace(readme, document);
        namesTheRefusals(readme);
        Check.end();
    }

    private static void example(String readme) throws IllegalAccessException, InvocationTargetException {
        WaterThanks water = new WaterThanks();
        int calls = 0;
        Matcher call = CALL.matcher(readme);
        while (call.find()) {
            Method method = method(call.group(1));
            Check.due("README: there is a " + call.group(1), method != null);
            if (method != null) {
                Object[] with = numbers(method, call.group(2));
                Check.due("README: " + call.group().trim(), (int) method.invoke(water, with),
                    Integer.parseInt(call.group(3)));
            }
            calls++;
        }
        Check.due("README: all calls of the example are read", calls, readme.split("(?m)^water\\.").length - 1);
        Check.due("README: it has an example", calls > 0);
    }

    private static Method method(String name) {
        for (Method method : WaterThanks.class.getMethods()) {
            if (method.getName().equals(name)) {
                return method;
            }
        }
        return null;
    }

    private static Object[] numbers(Method method, String text) {
        List<Object> with = new ArrayList<>();
        for (String part : text.isEmpty() ? new String[0] : text.split(", ")) {
            boolean isLong = method.getParameterTypes()[with.size()] == long.class;
            if (isLong) {
                with.add(Long.decode(part.replace("L", "")));
            } else {
                with.add(Integer.decode(part));
            }
        }
        return with.toArray();
    }

    private static void namesTheFace(String readme, String document) {
        int methods = 0;
        Matcher face = Pattern.compile("(?m)^    public int (\\w+)\\((.*)\\);$").matcher(document);
        while (face.find()) {
            String call = face.group(1) + "(" + face.group(2).replaceAll("(int|long) ", "") + ")";
            Check.due("README: a row for " + call, readme.contains("\n| `" + call + "` | "));
            methods++;
        }
        Check.due("the document has a face", methods, 39);
    }

    private static void namesTheRefusals(String readme) {
        String[] told = {"`BAD` " + WaterThanks.BAD, "`FULL` " + WaterThanks.FULL, "`NONE` " + WaterThanks.NONE,
            "`STATE` " + WaterThanks.STATE, "`LOW + BAD` " + (WaterThanks.LOW + WaterThanks.BAD),
            "-9", "-11", "-12", "-13", "-14", "-15", "-100 and below"};
        for (String refusal : told) {
            Check.due("README: a row for " + refusal, readme.contains("\n| " + refusal + " | "));
        }
        Check.due("README: LOW", readme.contains("`LOW` is " + WaterThanks.LOW));
    }
}
