import java.io.IOException;
import java.lang.reflect.InvocationTargetException;
import java.lang.reflect.Method;
import java.lang.reflect.Modifier;
import java.nio.file.Files;
import java.nio.file.Path;
import java.util.ArrayList;
import java.util.HashMap;
import java.util.List;
import java.util.Map;
import java.util.regex.Matcher;
import java.util.regex.Pattern;
import java.util.stream.Collectors;

/** README.md's example is made call by call, so that the page can't say what the class does not do. */
public final class ReadmeTest {
    private static final Check c = new Check();
    private static final Map<String, Method> face = new HashMap<>();

    public static void main(String[] args) throws IOException, IllegalAccessException {
        for (Method m : LedgeEggs.class.getDeclaredMethods()) {
            if (Modifier.isPublic(m.getModifiers())) {
                face.put(m.getName(), m);
            }
        }
        String page = Files.readString(Path.of("README.md"));
        List<String> blocks = blocks(page);
        c.due("the helper and the example", blocks.size(), 2);
        if (blocks.size() == 2) {
            helper(blocks.get(0));
            example(blocks.get(1));
        }
        table(page);
        tests(page);
        c.end("ReadmeTest");
    }

    private static List<String> blocks(String page) {
        List<String> found = new ArrayList<>();
        Matcher block = Pattern.compile("(?s)```java\n(.*?)```").matcher(page);
        while (block.find()) {
            found.add(block.group(1));
        }
        return found;
    }

    /** The page's helper is the one by which all tests feed their texts. */
    private static void helper(String told) throws IOException {
        String used = Files.readString(Path.of("src", "test", "java", "helpers", "Check.java"));
        c.due("Check.java has the helper", used.contains(told.indent(4)), true);
    }

    private static void example(String told) throws IllegalAccessException {
        LedgeEggs x = null;
        Pattern call = Pattern.compile("x\\.(\\w+)\\((.*)\\); +// (throws )?([\\w-]+)(: .*)?");
        Pattern text = Pattern.compile("tell\\(x, \"(.*)\"\\);");
        for (String line : told.split("\n")) {
            Matcher asked = call.matcher(line);
            Matcher fed = text.matcher(line);
            if (line.equals("LedgeEggs x = new LedgeEggs();")) {
                x = new LedgeEggs();
            } else if (fed.matches()) {
                Check.tell(x, fed.group(1));
            } else if (asked.matches()) {
                c.due(line, answer(x, asked.group(1), asked.group(2)), asked.group(4));
            } else {
                c.due("a line of the example", line, "one that can be made");
            }
        }
    }

    private static String answer(LedgeEggs x, String name, String told) throws IllegalAccessException {
        Method m = face.get(name);
        String[] words = told.isEmpty() ? new String[0] : told.split(", ");
        if (m == null || words.length != m.getParameterCount()) {
            return "no such call";
        }
        Object[] values = new Object[words.length];
        for (int i = 0; i < words.length; i++) {
            values[i] = m.getParameterTypes()[i] == int.class ? (Object) Integer.valueOf(words[i]) : Boolean.valueOf(words[i]);
        }
        try {
            return String.valueOf(m.invoke(x, values));
        } catch (InvocationTargetException e) {
            return e.getCause().getClass().getSimpleName();
        }
    }

    private static void table(String page) {
        List<String> named = new ArrayList<>();
        Matcher row = Pattern.compile("(?m)^\\| [^|]+ \\| (`.*`) \\|$").matcher(page);
        while (row.find()) {
            for (String name : row.group(1).split(" ")) {
                named.add(name.replace("`", ""));
            }
        }
        c.due("the table's calls", named.stream().sorted().collect(Collectors.toList()),
                face.keySet().stream().sorted().collect(Collectors.toList()));
    }

    private static void tests(String page) throws IOException {
        try (var files = Files.list(Path.of("src", "test", "java"))) {
            for (Path file : files.collect(Collectors.toList())) {
                String name = file.getFileName().toString();
                if (name.endsWith("Test.java")) {
                    c.due("README.md tells of " + name, page.contains("- `" + name.replace(".java", "") + "`: "), true);
                }
            }
        }
    }
}
