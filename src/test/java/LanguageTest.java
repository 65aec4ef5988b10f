import java.lang.reflect.Constructor;
import java.lang.reflect.Field;
import java.lang.reflect.Method;
import java.lang.reflect.Modifier;
import java.nio.file.Files;
import java.nio.file.Path;
import java.util.ArrayList;
import java.util.Arrays;
import java.util.List;
import java.util.TreeSet;
import java.util.regex.Matcher;
import java.util.regex.Pattern;

/** The document's face, and those rules of LANGUAGE.md that can be seen from the class and its text. */
public final class LanguageTest {
    private static int wrong = 0;

    private static void rule(boolean holds, String what) {
        if (!holds) {
            wrong++;
            System.out.println(what);
        }
    }

    private static TreeSet<String> faceOfDocument() throws Exception {
        String doc = Files.readString(Path.of("../shared/DOC.md"));
        String face = doc.substring(doc.indexOf("```java") + 7, doc.indexOf("```", doc.indexOf("```java") + 7));
        TreeSet<String> out = new TreeSet<>();
        Matcher m = Pattern.compile("public int (\\w+)\\(([^)]*)\\);").matcher(face);
        while (m.find()) out.add(m.group(1) + " " + (m.group(2).isBlank() ? 0 : m.group(2).split(",").length));
        return out;
    }

    private static void face() throws Exception {
        TreeSet<String> methods = new TreeSet<>();
        TreeSet<String> names = new TreeSet<>();
        for (Method m : OneBullet.class.getDeclaredMethods()) {
            if (Modifier.isPublic(m.getModifiers())) {
                methods.add(m.getName() + " " + m.getParameterCount());
                names.add(m.getName());
                rule(m.getReturnType() == int.class && !Modifier.isStatic(m.getModifiers()), "odd: " + m);
                for (Class<?> c : m.getParameterTypes()) rule(c == int.class, "odd: " + m);
            } else {
                rule(Modifier.isPrivate(m.getModifiers()), "neither public nor private: " + m);
            }
        }
        rule(methods.equals(faceOfDocument()), "the face is " + methods);
        rule(methods.size() == 37, methods.size() + " methods");
        rule(Modifier.isFinal(OneBullet.class.getModifiers()), "not final");
        Constructor<?>[] made = OneBullet.class.getDeclaredConstructors();
        rule(made.length == 1 && Modifier.isPublic(made[0].getModifiers()) && made[0].getParameterCount() == 0, "constructors");
        for (Field f : OneBullet.class.getDeclaredFields()) {
            rule(Modifier.isPrivate(f.getModifiers()) || f.getName().equals("NONE"), "not private: " + f);
        }
        List<Class<?>> classes = new ArrayList<>(Arrays.asList(OneBullet.class.getDeclaredClasses()));
        rule(classes.size() <= 12, classes.size() + " classes inside");
        for (Class<?> c : classes) {
            rule(Modifier.isStatic(c.getModifiers()) && !Modifier.isPublic(c.getModifiers()), "not static or public: " + c);
            for (Method m : c.getDeclaredMethods()) rule(!names.contains(m.getName()), "bears a public name: " + m);
        }
        classes.add(OneBullet.class);
        for (Class<?> c : classes) {
            int fields = 0;
            for (Field f : c.getDeclaredFields()) {
                if (!Modifier.isStatic(f.getModifiers())) fields++;
                else rule(Modifier.isFinal(f.getModifiers()), "static, not final: " + f);
            }
            rule(fields <= 20, fields + " fields: " + c);
            for (Method m : c.getDeclaredMethods()) rule(m.getParameterCount() <= 7, "too many parameters: " + m);
        }
    }

    private static void text() throws Exception {
        String source = Files.readString(Path.of("src/main/java/OneBullet.java"));
        for (char c : source.toCharArray()) rule(c == '\n' || c >= 32 && c < 127, "a sign " + (int) c);
        String code = source.replaceAll("(?s)/\\*.*?\\*/", "").replaceAll("//[^\n]*", "").replaceAll("\"[^\"\n]*\"", "\"\"");
        for (String word : List.of("throw", "throws", "try", "catch", "finally", "synchronized", "assert", "import", "package",
                "native", "volatile", "Thread", "Random", "Object", "hashCode", "toString", "double", "float", "var")) {
            rule(!Pattern.compile("\\b" + word + "\\b").matcher(code).find(), "the word " + word);
        }
        for (String part : List.of("->", "::", "Exact", "static {", "[][]", "@")) rule(!code.contains(part), "the sign " + part);
        Matcher library = Pattern.compile("\\b(System|Math|Integer|Long|String|Arrays)\\.(\\w+)").matcher(code);
        List<String> allowed = List.of("System.arraycopy", "Math.min", "Math.max", "Integer.bitCount", "Integer.MIN_VALUE");
        while (library.find()) rule(allowed.contains(library.group()), "the library's " + library.group());
        methodLengths(source);
    }

    private static void methodLengths(String source) {
        String[] lines = source.split("\n");
        for (int from = 0; from < lines.length; from++) {
            String head = lines[from];
            boolean inside = head.startsWith("        ") && !head.startsWith("         ");
            boolean outside = head.startsWith("    ") && !head.startsWith("     ");
            if ((inside || outside) && head.endsWith(") {") && !head.trim().matches("(if|for|while|switch)\\b.*")) {
                String end = (inside ? "        " : "    ") + "}";
                int to = from;
                while (to < lines.length && !lines[to].equals(end)) to++;
                rule(to - from < 60, "long: " + head.trim());
            }
        }
    }

    public static void main(String[] args) throws Exception {
        face();
        text();
        System.out.println(wrong == 0 ? "within the language" : wrong + " things are not");
        if (wrong != 0) System.exit(1);
    }
}
