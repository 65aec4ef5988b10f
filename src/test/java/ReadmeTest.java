import java.lang.reflect.InvocationTargetException;
import java.lang.reflect.Method;
import java.nio.file.Files;
import java.nio.file.Path;
import java.util.HashMap;
import java.util.Map;
import java.util.TreeSet;
import java.util.regex.Matcher;
import java.util.regex.Pattern;

/** Makes the calls that README.md shows and asks for the answers that it shows; every promise's call must be shown. */
public final class ReadmeTest {
    private static final Pattern MADE = Pattern.compile("OneBullet (\\w+) = new OneBullet\\(\\);");
    private static final Pattern CALL = Pattern.compile("(?:int (\\w+) = )?(\\w+)\\.(\\w+)\\(([^()]*)\\);\\s*// (-?\\d+)(?:: .*)?");

    private final Map<String, OneBullet> objects = new HashMap<>();
    private final Map<String, Integer> numbers = new HashMap<>();
    private final TreeSet<String> shown = new TreeSet<>();
    private int calls = 0;
    private int wrong = 0;

    private void complain(String what) {
        wrong++;
        System.out.println("README.md: " + what);
    }

    private void run(String line) throws IllegalAccessException, InvocationTargetException {
        Matcher made = MADE.matcher(line);
        Matcher call = CALL.matcher(line);
        if (made.matches()) {
            objects.put(made.group(1), new OneBullet());
        } else if (!call.matches() || !objects.containsKey(call.group(2))) {
            complain("no call with an answer: " + line);
        } else {
            int[] arguments = argumentsOf(call.group(4));
            Method method = methodNamed(call.group(3), arguments.length);
            if (method == null) {
                complain("no such call: " + line);
            } else {
                ask(line, method, objects.get(call.group(2)), arguments, Integer.parseInt(call.group(5)));
                if (call.group(1) != null) numbers.put(call.group(1), Integer.parseInt(call.group(5)));
            }
        }
    }

    private void ask(String line, Method method, OneBullet x, int[] arguments, int due)
            throws IllegalAccessException, InvocationTargetException {
        Object[] boxed = new Object[arguments.length];
        for (int i = 0; i < boxed.length; i++) boxed[i] = arguments[i];
        int got = (Integer) method.invoke(x, boxed);
        calls++;
        shown.add(method.getName());
        if (got != due) complain(line.trim() + " answered " + got);
    }

    private int[] argumentsOf(String list) {
        if (list.isBlank()) return new int[0];
        String[] parts = list.split(",");
        int[] out = new int[parts.length];
        for (int i = 0; i < out.length; i++) {
            for (String part : parts[i].split("\\+")) out[i] += numberOf(part.trim());
        }
        return out;
    }

    private int numberOf(String text) {
        if (text.equals("OneBullet.NONE")) return OneBullet.NONE;
        if (text.matches("-?(\\d+|0x[0-9a-f]+)")) return Integer.decode(text);
        if (!numbers.containsKey(text)) complain("nothing is named " + text);
        return numbers.getOrDefault(text, 0);
    }

    private static Method methodNamed(String name, int parameters) {
        for (Method m : OneBullet.class.getMethods()) {
            if (m.getDeclaringClass() == OneBullet.class && m.getName().equals(name) && m.getParameterCount() == parameters) {
                return m;
            }
        }
        return null;
    }

    private void allAreShown() {
        for (Method m : OneBullet.class.getMethods()) {
            if (m.getDeclaringClass() == OneBullet.class && !shown.contains(m.getName())) complain("shows no call of " + m.getName());
        }
    }

    public static void main(String[] args) throws Exception {
        ReadmeTest test = new ReadmeTest();
        boolean inBlock = false;
        for (String line : Files.readAllLines(Path.of("README.md"))) {
            if (line.startsWith("```")) {
                inBlock = line.equals("```java");
            } else if (inBlock && !line.isBlank()) {
                test.run(line);
            }
        }
        test.allAreShown();
        System.out.println(test.calls + " calls of README.md, " + test.wrong + " not as due");
        if (test.wrong != 0) System.exit(1);
    }
}
