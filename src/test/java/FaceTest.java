import java.io.IOException;
import java.lang.management.ManagementFactory;
import java.lang.reflect.Constructor;
import java.lang.reflect.Field;
import java.lang.reflect.Method;
import java.lang.reflect.Modifier;
import java.nio.file.Files;
import java.nio.file.Path;
import java.util.ArrayList;
import java.util.Arrays;
import java.util.List;
import java.util.TreeSet;
import java.util.regex.Matcher;
import java.util.regex.Pattern;
import java.util.stream.Collectors;

/** The public face as the document writes it, the rules of LANGUAGE.md that can be seen, and what calls make. */
public final class FaceTest {
    private static final Check c = new Check();

    public static void main(String[] args) throws IOException {
        face();
        members(LedgeEggs.class);
        for (Class<?> inside : LedgeEggs.class.getDeclaredClasses()) {
            insideClass(inside);
        }
        source();
        callsMakeNothing();
        c.end("FaceTest");
    }

    private static void face() throws IOException {
        String doc = Files.readString(Path.of("..", "shared", "DOC.md"));
        Matcher methods = Pattern.compile("    public (\\w+) (\\w+)\\(([^)]*)\\)( throws ([\\w, ]+))?;").matcher(doc);
        TreeSet<String> want = new TreeSet<>();
        while (methods.find()) {
            String types = Arrays.stream(methods.group(3).split(", ")).map(p -> p.split(" ")[0]).collect(Collectors.joining(","));
            String thrown = methods.group(5) == null ? "" : methods.group(5).replace(" ", "");
            want.add(methods.group(1) + " " + methods.group(2) + "(" + types + ") " + thrown);
        }
        TreeSet<String> got = new TreeSet<>();
        for (Method m : LedgeEggs.class.getDeclaredMethods()) {
            if (!Modifier.isPrivate(m.getModifiers()) && !m.isSynthetic()) {
                String types = Arrays.stream(m.getParameterTypes()).map(Class::getSimpleName).collect(Collectors.joining(","));
                String thrown = Arrays.stream(m.getExceptionTypes()).map(Class::getSimpleName).collect(Collectors.joining(","));
                got.add(m.getReturnType().getSimpleName() + " " + m.getName() + "(" + types + ") " + thrown);
                c.due(m.getName() + " is public and of an object", Modifier.isPublic(m.getModifiers()) && !Modifier.isStatic(m.getModifiers()), true);
            }
        }
        c.due("methods of the document", want.size(), 52);
        c.due("the face's methods", got, want);
        c.due("NONE", LedgeEggs.NONE, -1);
        Constructor<?>[] made = LedgeEggs.class.getDeclaredConstructors();
        c.due("one constructor", made.length, 1);
        c.due("public, without arguments", Modifier.isPublic(made[0].getModifiers()) && made[0].getParameterCount() == 0, true);
        c.due("public and final", Modifier.isPublic(LedgeEggs.class.getModifiers()) && Modifier.isFinal(LedgeEggs.class.getModifiers()), true);
    }

    private static void members(Class<?> of) {
        for (Field f : of.getDeclaredFields()) {
            boolean constant = f.getName().equals("NONE");
            c.due("field " + f.getName() + " is private", Modifier.isPrivate(f.getModifiers()), !constant);
        }
    }

    private static void insideClass(Class<?> inside) {
        TreeSet<String> face = new TreeSet<>();
        for (Method m : LedgeEggs.class.getDeclaredMethods()) {
            if (Modifier.isPublic(m.getModifiers())) {
                face.add(m.getName());
            }
        }
        c.due(inside + " is static", Modifier.isStatic(inside.getModifiers()), true);
        for (Method m : inside.getDeclaredMethods()) {
            c.due(inside.getSimpleName() + "." + m.getName() + " bears a public name", face.contains(m.getName()), false);
            c.due(m.getName() + " has at most seven parameters", m.getParameterCount() <= 7, true);
        }
        int fields = 0;
        for (Field f : inside.getDeclaredFields()) {
            boolean still = Modifier.isStatic(f.getModifiers());
            fields += still ? 0 : 1;
            c.due("static " + f.getName() + " is a final int", !still || Modifier.isFinal(f.getModifiers()) && f.getType() == int.class, true);
        }
        c.due(inside + " has at most twenty fields", fields <= 20, true);
    }

    private static void source() throws IOException {
        String text = Files.readString(Path.of("src", "main", "java", "LedgeEggs.java"));
        String code = text.replaceAll("(?s)/\\*.*?\\*/", "").replaceAll("//[^\n]*", "").replaceAll("\"[^\"]*\"", "\"\"");
        String[] never = {"\\btry\\b", "\\bcatch\\b", "->", "::", "\\bsynchronized\\b", "\\bassert\\b", "\\bfinally\\b", "static \\{", "Exact\\(",
            "\\bdouble\\b", "\\bfloat\\b", "\\bObject\\b", "hashCode", "toString", "\\bpackage\\b", "\"\" \\+", "\\+ \"\"", "\\bgoto\\b", "\\bprotected\\b"};
        for (String word : never) {
            c.due("source has " + word, Pattern.compile(word).matcher(code).find(), false);
        }
        c.due("only signs 9 to 126", text.chars().allMatch(s -> s == '\n' || s >= ' ' && s < 127), true);
        c.due("one import", imports(code), List.of("java.util.NoSuchElementException"));
        Matcher thrown = Pattern.compile("throw new (\\w+)").matcher(code);
        while (thrown.find()) {
            String kind = thrown.group(1);
            c.due("throws " + kind, kind.matches("IllegalStateException|IllegalArgumentException|IndexOutOfBoundsException|UnsupportedOperationException|NoSuchElementException"), true);
        }
        Matcher system = Pattern.compile("System\\.(\\w+)|Arrays\\.(\\w+)").matcher(code);
        while (system.find()) {
            c.due(system.group(), system.group(), "System.arraycopy");
        }
        shortMethods(text);
    }

    private static List<String> imports(String code) {
        List<String> found = new ArrayList<>();
        Matcher each = Pattern.compile("import ([\\w.]+);").matcher(code);
        while (each.find()) {
            found.add(each.group(1));
        }
        return found;
    }

    private static void shortMethods(String text) {
        Matcher body = Pattern.compile("(?m)^( +)[^ /*].*\\) (throws .*)?\\{\n(?:\\1 .*\n|\n)*\\1\\}").matcher(text);
        int methods = 0;
        while (body.find()) {
            methods++;
            c.due("sixty lines at most: " + body.group().split("\n")[0].trim(), body.group().lines().count() <= 60, true);
        }
        c.due("methods were seen", methods > 100, true);
    }

    /** The room of a run is small: rows are made in constructors alone. */
    private static void callsMakeNothing() {
        LedgeEggs x = rich();
        useAll(x);
        long before = allocated();
        LedgeEggs y = new LedgeEggs();
        long made = allocated() - before;
        c.due("a new object has some 20000 elements at most", made < 20000 * 4 + 8000, true);
        c.due("it is bare", y.count(0), 0);
        before = allocated();
        useAll(x);
        long used = allocated() - before;
        before = allocated();
        long asking = allocated() - before;
        c.due("calls make nothing", used - asking < 1000, true);
    }

    private static long allocated() {
        var bean = (com.sun.management.ThreadMXBean) ManagementFactory.getThreadMXBean();
        return bean.getThreadAllocatedBytes(Thread.currentThread().getId());
    }

    private static LedgeEggs rich() {
        StringBuilder text = new StringBuilder();
        for (int i = 0; i < 10; i++) {
            text.append("ledge").append(9 + i).append("roof5eggs").append(i).append("age0birds9;");
        }
        LedgeEggs x = Check.isle(text + "holder 9;holder 9;climber 5;climber 4");
        Check.law(x, "lay 1 if fresh;lay 2 if not fresh and eggs + age < 7 or (day > 3);swing 1 if kick < 3;wear 1");
        return x;
    }

    private static void useAll(LedgeEggs x) {
        x.image();
        x.let(0, 9, 2);
        x.clear(3);
        x.rest(0);
        x.turn();
        x.days(60);
        x.undo();
        for (int what = 0; what < 8; what++) {
            x.ledge(1, what);
        }
        x.climber(0, 2);
        x.ahead(0, 40, true);
        x.when(0, 20);
        x.late(0);
        x.harvest(10, 9);
        x.loss(10);
        x.leave(45);
        x.lasts(0, 0);
        x.enough(0, 0);
        x.shifts(0, 0);
        x.who();
        x.farthest(0, 12, 3);
        x.calm(0);
        x.trips(0, 0);
        x.recovers(0, 0);
        x.pairs(3);
        x.jerks(12, 1);
        x.safe(5, 1);
        x.heard(5, 1, 1);
        x.round(1023);
        x.split(true);
        x.share(99, true);
        x.rests();
        x.how(9, true);
        x.trial(40, true);
        x.span(40, true);
        x.led(0, true);
        x.lucky();
        x.log(0, 0);
        x.feed(0x6c617920, 0x31202020, 0x20202020, 0x20202020, 0x20202020);
        x.law();
        x.feed(0x67616c65, 0x31202020, 0x20202020, 0x20202020, 0x20202020);
        x.isle();
        x.back();
    }
}
