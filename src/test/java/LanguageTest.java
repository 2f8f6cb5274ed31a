import java.io.IOException;
import java.lang.management.ManagementFactory;
import java.lang.reflect.Constructor;
import java.lang.reflect.Field;
import java.lang.reflect.Method;
import java.lang.reflect.Modifier;
import java.nio.charset.StandardCharsets;
import java.nio.file.Files;
import java.nio.file.Path;
import java.util.ArrayList;
import java.util.Arrays;
import java.util.List;
import java.util.TreeSet;
import java.util.regex.Matcher;
import java.util.regex.Pattern;

/** The face of DOC.md, and of LANGUAGE.md what can be seen without reading; run in the folder of the project. */
public final class LanguageTest {
    private static final Path SOURCE = Path.of("src/main/java/BinsThatTell.java");
    private static final Path DOCUMENT = Path.of("../shared/DOC.md");
    private static final Check check = new Check();

    public static void main(String[] args) throws IOException {
        face();
        classes();
        namesOfTheFace();
        String source = Files.readString(SOURCE, StandardCharsets.ISO_8859_1);
        words(source);
        lengths(source);
        room();
        check.end("LanguageTest");
    }

    private static void is(String what, boolean so) {
        check.same(what, so, true);
    }

    /** Each method as the document writes it, without the names of its parameters. */
    private static TreeSet<String> faceOfTheDocument() throws IOException {
        String text = Files.readString(DOCUMENT, StandardCharsets.UTF_8);
        Matcher m = Pattern.compile("public (int|long|boolean) (\\w+)\\(([^)]*)\\)( throws \\w+)?;").matcher(text);
        TreeSet<String> face = new TreeSet<>();
        while (m.find()) {
            String parameters = m.group(3).replaceAll(" \\w+(, |$)", "$1");
            face.add(m.group(1) + " " + m.group(2) + "(" + parameters + ")" + (m.group(4) == null ? "" : m.group(4)));
        }
        return face;
    }

    private static String written(Method m) {
        List<String> parameters = new ArrayList<>();
        for (Class<?> c : m.getParameterTypes()) {
            parameters.add(c.getSimpleName());
        }
        String thrown = m.getExceptionTypes().length == 0 ? "" : " throws " + m.getExceptionTypes()[0].getSimpleName();
        return m.getReturnType().getSimpleName() + " " + m.getName() + "(" + String.join(", ", parameters) + ")" + thrown;
    }

    private static void face() throws IOException {
        TreeSet<String> due = faceOfTheDocument();
        check.same("methods in the document", due.size(), 46);
        TreeSet<String> are = new TreeSet<>();
        for (Method m : BinsThatTell.class.getDeclaredMethods()) {
            if (!Modifier.isPrivate(m.getModifiers())) {
                are.add(written(m));
                check.same(m.getName() + " is public alone", m.getModifiers(), Modifier.PUBLIC);
            }
        }
        is("the methods are " + are + ", due are " + due, are.equals(due));
        is("public and final", BinsThatTell.class.getModifiers() == (Modifier.PUBLIC | Modifier.FINAL));
        Constructor<?>[] constructors = BinsThatTell.class.getDeclaredConstructors();
        is("one constructor", constructors.length == 1 && Modifier.isPublic(constructors[0].getModifiers()));
        for (Field f : BinsThatTell.class.getDeclaredFields()) {
            boolean none = f.getName().equals("NONE");
            is(f.getName() + " is private but NONE", Modifier.isPrivate(f.getModifiers()) != none);
        }
    }

    private static List<Class<?>> allClasses() {
        List<Class<?>> all = new ArrayList<>(List.of(BinsThatTell.class));
        all.addAll(Arrays.asList(BinsThatTell.class.getDeclaredClasses()));
        return all;
    }

    private static void classes() {
        is("at most twelve classes", allClasses().size() <= 12);
        for (Class<?> c : allClasses()) {
            check.same(c.getName() + ": classes inside", c.getDeclaredClasses().length,
                c == BinsThatTell.class ? allClasses().size() - 1 : 0);
            is(c.getName() + " is static", c == BinsThatTell.class || Modifier.isStatic(c.getModifiers()));
            int fields = 0;
            for (Field f : c.getDeclaredFields()) {
                boolean constant = Modifier.isStatic(f.getModifiers());
                fields += constant ? 0 : 1;
                is(f + " is final", !constant || Modifier.isFinal(f.getModifiers()));
                is(f + " is not synthetic", !f.isSynthetic());
            }
            is(c.getName() + " has at most twenty fields", fields <= 20);
            for (Method m : c.getDeclaredMethods()) {
                is(m + " has at most seven parameters", m.getParameterCount() <= 7);
                is(m + " is not synthetic", !m.isSynthetic());
            }
        }
    }

    private static void namesOfTheFace() {
        TreeSet<String> names = new TreeSet<>();
        for (Method m : BinsThatTell.class.getDeclaredMethods()) {
            if (Modifier.isPublic(m.getModifiers())) {
                names.add(m.getName());
            }
        }
        for (Class<?> c : allClasses()) {
            for (Method m : c.getDeclaredMethods()) {
                boolean ofTheFace = c == BinsThatTell.class && Modifier.isPublic(m.getModifiers());
                is(m + " bears no name of the face", ofTheFace || !names.contains(m.getName()));
            }
        }
    }

    private static String withoutComments(String source) {
        return source.replaceAll("(?s)/\\*.*?\\*/", "").replaceAll("//[^\n]*", "");
    }

    private static void words(String source) {
        String code = withoutComments(source);
        for (int p = 0; p < source.length(); p++) {
            if (source.charAt(p) > 126) {
                is("sign " + p + " is plain", false);
            }
        }
        String[] banned = {"->", "::", "@", "catch", "try", "finally", "synchronized", "assert", "package",
            "double", "float", "System.out", "System.err", "System.nano", "System.current", "Thread", "Random",
            "Object", "record", "interface", "protected", "volatile", "native", "var", "yield"};
        for (String word : banned) {
            String alone = word.matches("\\w+") ? "\\b" + word + "\\b" : Pattern.quote(word);
            is("without " + word, !Pattern.compile(alone).matcher(code).find());
        }
        Matcher imports = Pattern.compile("import ([\\w.]+);").matcher(code);
        while (imports.find()) {
            is("import " + imports.group(1), imports.group(1).equals("java.util.Arrays")
                || imports.group(1).equals("java.util.NoSuchElementException"));
        }
        Matcher library = Pattern.compile("\\b(System|Arrays|Math|Integer|Long)\\.(\\w+)").matcher(code);
        List<String> allowed = List.of("System.arraycopy", "Arrays.fill", "Math.abs", "Math.max", "Math.min",
            "Integer.compare", "Integer.bitCount", "Integer.numberOfTrailingZeros", "Long.compare");
        while (library.find()) {
            String call = library.group(1) + "." + library.group(2);
            is(call + " is of the library", call.startsWith("Arrays.") ? call.equals("Arrays.fill") : allowed.contains(call));
        }
        Matcher thrown = Pattern.compile("throw new (\\w+)").matcher(code);
        int throwing = 0;
        while (thrown.find()) {
            throwing++;
            check.same("it throws " + thrown.group(1), thrown.group(1).equals("NoSuchElementException"), true);
        }
        check.same("places that throw", throwing, 2);
    }

    /** No method has more than sixty lines. */
    private static void lengths(String source) {
        String[] lines = source.split("\n");
        int begun = -1;
        String indent = "";
        for (int i = 0; i < lines.length; i++) {
            boolean heads = lines[i].matches(" {4,8}[\\w\\[\\] ]+\\([^=;]*\\{");
            if (begun < 0 && heads) {
                begun = i;
                indent = lines[i].replaceAll("\\S.*", "");
            } else if (begun >= 0 && lines[i].equals(indent + "}")) {
                is("the method from line " + (begun + 1) + " on is short", i - begun < 60);
                begun = -1;
            }
        }
        check.same("all methods end", begun, -1);
    }

    /** All calls live in one room, so none of them makes anything. */
    private static void room() {
        com.sun.management.ThreadMXBean bean = (com.sun.management.ThreadMXBean) ManagementFactory.getThreadMXBean();
        for (int warm = 0; warm < 3; warm++) {
            long before = bean.getThreadAllocatedBytes(Thread.currentThread().getId());
            BinsThatTell x = new BinsThatTell();
            long made = bean.getThreadAllocatedBytes(Thread.currentThread().getId());
            allCalls(x);
            long after = bean.getThreadAllocatedBytes(Thread.currentThread().getId());
            if (warm == 2) {
                is("a new object has " + (made - before) + " bytes", made - before < 100000);
                is("its calls make " + (after - made) + " bytes", after - made < 2000);
            }
        }
    }

    private static int allCalls(BinsThatTell x) {
        int sum = 0;
        for (int i = 0; i < 8; i++) {
            sum += x.sort(50, i - 3, 50) + x.street(5 + i);
            x.goes(i, 1, 2, 3);
            x.lack(i, i, true);
            x.told(i, i < 4 ? i : -1);
        }
        x.sign(0x7a2b682a);
        x.sign(0x77000000);
        x.end(5);
        sum += x.law(0);
        x.sign(0x573c7700);
        x.end(3);
        sum += x.story();
        for (int i = 0; i < 96; i += 3) {
            sum += x.live(i / 12, i % 12) + x.put(i % 6, i, i % 8, i) + x.get(0, i, 0);
            sum += x.twice(i % 8, i % 7, 9) + x.paper(i % 10, 1900, 2100 - i);
        }
        for (int i = 0; i < 8; i++) {
            sum += x.sum(0, i, 255, 4095) + x.bounds(i, i, 9) + x.line(i, 0, 9) + x.off(i, 1) + x.nearest(i);
            sum += x.worst(1, 1) + x.right(1) + x.three(i, 2) + x.slope(i, 2) + x.others(i, 1) + x.worth(i, 1);
            sum += x.waste(i) + x.holds(i) + x.parts() + x.alike() + x.mixed() + x.leans(i) + x.truly(i, 3);
            sum += x.moved(i, 3) + x.feasts(i) + x.need(1, i, 1, 99) + x.weeks(1, i, 1, 99);
            sum += x.year(i) + x.stray() + x.was(i, i, 99, 2000) + x.does(1, i, 3) + x.sheet(i, 0, 96, 1, 1);
            sum += x.keep(i % 3) && x.again(i % 3) ? 1 : 0;
            sum += x.count(6) + (int) x.row(0) + x.seed(i);
        }
        return sum;
    }
}
