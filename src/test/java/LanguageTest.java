import java.io.IOException;
import java.lang.reflect.Constructor;
import java.lang.reflect.Field;
import java.lang.reflect.Method;
import java.lang.reflect.Modifier;
import java.nio.file.Files;
import java.nio.file.Path;
import java.util.Arrays;
import java.util.Set;
import java.util.TreeSet;
import java.util.regex.Matcher;
import java.util.regex.Pattern;

/** The class keeps to ../shared/LANGUAGE.md, as far as its text and its face tell, and to the document's face. */
final class LanguageTest {
    private static final Path SOURCE = Path.of("src/main/java/WaterThanks.java");
    private static final Path DOCUMENT = Path.of("../shared/DOC.md");

    public static void main(String[] args) throws IOException {
        String code = withoutComments(Files.readString(SOURCE));
        face(Files.readString(DOCUMENT));
        words(code);
        sizes(code);
        Check.end();
    }

    private static String withoutComments(String text) {
        return text.replaceAll("(?s)/\\*.*?\\*/", " ").replaceAll("//[^\n]*", "");
    }

    private static void face(String document) {
        Set<String> due = new TreeSet<>();
        Matcher m = Pattern.compile("(?m)^    public int (\\w+)\\((.*)\\);$").matcher(document);
        while (m.find()) {
            due.add(m.group(1) + "(" + m.group(2).replaceAll("(int|long) \\w+", "$1") + ")");
        }
        Set<String> has = new TreeSet<>();
        Set<String> names = new TreeSet<>();
        for (Method method : WaterThanks.class.getDeclaredMethods()) {
            if (!Modifier.isPrivate(method.getModifiers())) {
                StringBuilder types = new StringBuilder();
                for (Class<?> type : method.getParameterTypes()) {
                    types.append(types.length() == 0 ? "" : ", ").append(type.getName());
                }
                has.add(method.getName() + "(" + types + ")");
                names.add(method.getName());
                Check.due("rule 1: public int " + method.getName(), method.getModifiers() == Modifier.PUBLIC
                    && method.getReturnType() == int.class);
            }
        }
        Check.due("the document has a face", due.size() == 39);
        Check.due("rule 1: the face: " + has, has.equals(due));
        for (Class<?> type : WaterThanks.class.getDeclaredClasses()) {
            Check.due("rule 2: static " + type, Modifier.isStatic(type.getModifiers())
                && !Modifier.isPublic(type.getModifiers()) && !Modifier.isProtected(type.getModifiers()));
            for (Method method : type.getDeclaredMethods()) {
                Check.due("rule 1: the name of " + method, !names.contains(method.getName()));
            }
        }
        for (Method method : WaterThanks.class.getDeclaredMethods()) {
            Check.due("rule 1: private " + method, !Modifier.isPrivate(method.getModifiers())
                || !names.contains(method.getName()));
        }
        fieldsAndConstructors();
    }

    private static void fieldsAndConstructors() {
        Set<String> constants = Set.of("BAD", "FULL", "NONE", "STATE", "LOW");
        for (Field field : WaterThanks.class.getDeclaredFields()) {
            boolean isConstant = constants.contains(field.getName());
            int due = isConstant ? Modifier.PUBLIC | Modifier.STATIC | Modifier.FINAL : Modifier.PRIVATE;
            int has = field.getModifiers();
            Check.due("rule 1: " + field, isConstant ? has == due : (has & due) == due);
            Check.due("rule 5: " + field, !Modifier.isStatic(has) || Modifier.isFinal(has));
        }
        Constructor<?>[] all = WaterThanks.class.getDeclaredConstructors();
        Check.due("rule 1: one constructor", all.length == 1 && all[0].getModifiers() == Modifier.PUBLIC
            && all[0].getParameterCount() == 0);
        Check.due("rule 1: public and final",
            WaterThanks.class.getModifiers() == (Modifier.PUBLIC | Modifier.FINAL));
    }

    private static void words(String code) {
        String[] none = {"throw", "throws", "try", "catch", "finally", "synchronized", "assert", "instanceof",
            "Object", "System\\.out", "Random", "Thread", "equals", "hashCode", "toString", "Exact", "package",
            "volatile", "transient", "native", "strictfp", "protected", "Scanner", "currentTimeMillis", "nanoTime"};
        for (String word : none) {
            Check.due("rules 4 to 13: no " + word, !Pattern.compile("\\b" + word + "\\b").matcher(code).find());
        }
        Check.due("rule 2: no lambda", !code.contains("->"));
        Check.due("rule 2: no method reference", !code.contains("::"));
        Check.due("rule 5: no static block", !Pattern.compile("static\\s*\\{").matcher(code).find());
        Matcher imports = Pattern.compile("import ([\\w.]+);").matcher(code);
        Set<String> allowed = Set.of("java.util.Arrays", "java.util.ArrayList", "java.util.List", "java.util.Iterator");
        while (imports.find()) {
            Check.due("rule 4: " + imports.group(1), allowed.contains(imports.group(1)));
        }
        Matcher calls = Pattern.compile("\\b(Arrays|Math|System)\\.(\\w+)").matcher(code);
        Set<String> library = Set.of("Arrays.fill", "Math.min", "Math.max", "Math.floorDiv", "Math.floorMod",
            "System.arraycopy");
        while (calls.find()) {
            Check.due("rule 4: " + calls.group(), library.contains(calls.group()));
        }
        Check.due("rule 10: texts of signs 1 to 127", code.chars().allMatch(c -> c > 0 && c < 128));
    }

    private static void sizes(String code) {
        int classes = WaterThanks.class.getDeclaredClasses().length + 1;
        Check.due("rule 11: " + classes + " classes", classes <= 12);
        String name = null;
        int from = 0;
        String[] lines = code.split("\n");
        Pattern head = Pattern.compile("^( {4}| {8})(?!.*\\b(class|new)\\b)\\S.*\\(.*\\) \\{$");
        for (int i = 0; i < lines.length; i++) {
            if (head.matcher(lines[i]).find()) {
                name = lines[i].trim();
                from = i;
                int commas = (int) name.chars().filter(c -> c == ',').count();
                Check.due("rule 11: parameters of " + name, commas < 7);
            }
            int indent = lines[from].length() - lines[from].stripLeading().length();
            if (name != null && lines[i].equals(" ".repeat(indent) + "}")) {
                Check.due("rule 11: length of " + name, i - from + 1 <= 60);
                name = null;
            }
        }
        for (Class<?> type : WaterThanks.class.getDeclaredClasses()) {
            long fields = Arrays.stream(type.getDeclaredFields()).filter(f -> !Modifier.isStatic(f.getModifiers()))
                .count();
            Check.due("rule 11: fields of " + type, fields <= 20);
        }
    }
}
