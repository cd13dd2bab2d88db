import java.io.IOException;
import java.lang.reflect.Field;
import java.lang.reflect.Method;
import java.lang.reflect.Modifier;
import java.nio.file.Files;
import java.nio.file.Path;
import java.util.Arrays;
import java.util.HashSet;
import java.util.List;
import java.util.Set;
import java.util.regex.Matcher;
import java.util.regex.Pattern;

/** What can be seen of the rules of LANGUAGE.md in the text of the program and in its classes. */
public final class RulesTest {
    private static final Set<String> LIBRARY = new HashSet<>(Arrays.asList(
            "Math.min", "Math.max", "Math.abs", "Integer.bitCount", "Arrays.fill", "Arrays.copyOf", "System.arraycopy"));

    public static void main(String[] args) throws IOException {
        String text = Files.readString(Path.of("src/main/java/Galleyforge.java"));
        String code = text.replaceAll("(?s)/\\*.*?\\*/", " ").replaceAll("//[^\n]*", " ").replaceAll("\"[^\"\n]*\"", "\"\"");
        words(text, code);
        library(code);
        methodLengths(text);
        classes();
        Check.end("RulesTest");
    }

    private static void words(String text, String code) {
        for (int k = 0; k < text.length(); k++) {
            if (text.charAt(k) > 126) Check.due("sign " + (int) text.charAt(k), 1, 0);
        }
        for (String banned : List.of("->", "::", "\\bcatch\\b", "\\btry\\b", "\\bfinally\\b", "\\bsynchronized\\b", "\\bassert\\b",
                "\\bpackage\\b", "\\bprotected\\b", "\\bvar\\b", "\\byield\\b", "\\bdouble\\b", "\\bfloat\\b", "\\bObject\\b",
                "\\bextends\\b", "\\binstanceof\\b", "hashCode", "equals", "toString", "\\bInteger>", "Exact\\(",
                "\"\" *\\+", "\\+ *\"\"", "static *\\{", "while *\\(true\\)", "for *\\(;;\\)", "@")) {
            Check.due("the rules leave out " + banned, Pattern.compile(banned).matcher(code).find() ? 1 : 0, 0);
        }
        Matcher thrown = Pattern.compile("\\bthrow\\b(?! new Ill| new Ind)").matcher(code);
        Check.due("exceptions of the document alone are thrown", thrown.find() ? 1 : 0, 0);
        Matcher inside = Pattern.compile("\n {8,}public ").matcher(code);
        Check.due("nothing inside is public", inside.find() ? 1 : 0, 0);
    }

    private static void library(String code) {
        Matcher call = Pattern.compile("\\b(Math|Integer|Long|Arrays|System|String|List|Collections|Character)\\.(\\w+)").matcher(code);
        while (call.find()) {
            Check.due(call.group() + " is of the library", LIBRARY.contains(call.group()) ? 1 : 0, 1);
        }
        Matcher imports = Pattern.compile("import ([\\w.*]+);").matcher(code);
        while (imports.find()) {
            Check.due("import " + imports.group(1), List.of("java.util.ArrayList", "java.util.Arrays").contains(imports.group(1)) ? 1 : 0, 1);
        }
        Matcher fill = Pattern.compile("Arrays\\.fill\\((\\w+)").matcher(code);
        while (fill.find()) {
            boolean flags = Pattern.compile("boolean\\[\\] " + fill.group(1) + "\\b").matcher(code).find();
            Check.due("fill over numbers alone: " + fill.group(1), flags ? 1 : 0, 0);
        }
    }

    /** Braces of methods stand 4 or 8 signs from the left. */
    private static void methodLengths(String text) {
        String[] lines = text.split("\n");
        for (int k = 0; k < lines.length; k++) {
            String indent = lines[k].startsWith("        ") ? "        " : "    ";
            if (!lines[k].matches(indent + "[A-Za-z].*\\) \\{") || lines[k].contains("switch (") || lines[k].contains("if (")) {
                continue;
            }
            int end = k;
            while (!lines[end].equals(indent + "}")) end++;
            if (end - k > 60) Check.due("lines of " + lines[k], end - k, 60);
        }
    }

    private static void classes() {
        Class<?>[] inside = Galleyforge.class.getDeclaredClasses();
        Check.due("some twelve classes", inside.length + 1 <= 13 ? 1 : 0, 1);
        Set<String> face = new HashSet<>();
        for (Method method : Galleyforge.class.getDeclaredMethods()) {
            if (Modifier.isPublic(method.getModifiers())) face.add(method.getName());
        }
        shape(Galleyforge.class, face);
        for (Class<?> each : inside) shape(each, face);
    }

    private static void shape(Class<?> each, Set<String> face) {
        int fields = 0;
        for (Field field : each.getDeclaredFields()) {
            if (!Modifier.isStatic(field.getModifiers())) fields++;
            else Check.due(field + " is final", field.getModifiers() & Modifier.FINAL, Modifier.FINAL);
        }
        Check.due("some twenty fields in " + each.getName(), fields <= 20 ? 1 : 0, 1);
        for (Method method : each.getDeclaredMethods()) {
            Check.due("seven parameters of " + method, method.getParameterCount() <= 7 ? 1 : 0, 1);
            if (!Modifier.isPublic(method.getModifiers())) {
                Check.due("the name of " + method, face.contains(method.getName()) ? 1 : 0, 0);
            }
        }
    }
}
