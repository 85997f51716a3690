import java.io.IOException;
import java.lang.management.ManagementFactory;
import java.lang.reflect.Method;
import java.lang.reflect.Modifier;
import java.nio.file.Files;
import java.nio.file.Path;
import java.util.Arrays;
import java.util.Set;
import java.util.TreeSet;
import java.util.regex.Matcher;
import java.util.regex.Pattern;

/** The document's face, the words that the language's rules leave out, and the room that an object takes. */
public final class FaceTest {
    private static final String[] FACE = {
        "int feed(int,int,int,int,int)", "int cut(int)", "int list(int)", "int lock(int)", "int rules()", "int shares()",
        "int fault()", "int tracks(int,int,int,int)", "boolean go(int)", "boolean play(int,int,int)", "int of(int,int)",
        "int level(int,int)", "int out(int)", "boolean patch(int,int,int)", "boolean grand(int)", "int wire(int)",
        "boolean axis(int,int,int,int,int)", "boolean to(int,int)", "int axisAt(int,int)", "boolean faults(int,int)",
        "void stop(boolean)", "boolean event(int,boolean)", "int tick(int)", "boolean section(int,int)",
        "boolean row(int,int,int)", "boolean line(int,boolean)", "int ask(int,int,int,int,int,int)", "int hold(int,int)",
        "int pay(int,int)", "boolean give(int)", "int back(int,int)", "int enter(int)", "int seat(int,int)", "int told(int)",
        "long share(int,int)", "int way(int,int,int,int)", "boolean crowd(int,int)", "void clearWays()", "int empty()"};

    public static void main(String[] args) throws IOException {
        face();
        words(Files.readString(Path.of(args.length > 0 ? args[0] : "src/main/java/StageHouse.java")));
        room();
        Check.end();
    }

    private static void face() {
        Set<String> found = new TreeSet<>();
        Set<String> hidden = new TreeSet<>();
        for (Method method : StageHouse.class.getDeclaredMethods()) {
            if (Modifier.isPrivate(method.getModifiers())) {
                hidden.add(method.getName());
                continue;
            }
            Check.yes("public " + method, Modifier.isPublic(method.getModifiers()));
            String types = Arrays.toString(method.getParameterTypes()).replaceAll("[\\[\\] ]", "");
            found.add(method.getReturnType() + " " + method.getName() + "(" + types + ")");
        }
        Check.yes("the document's methods: " + found, found.equals(new TreeSet<>(Arrays.asList(FACE))));
        for (String one : found) {
            Check.no("private of the same name", hidden.contains(one.replaceAll(".* |\\(.*", "")));
        }
        Check.yes("final", Modifier.isFinal(StageHouse.class.getModifiers()));
        Check.due("constructors", StageHouse.class.getConstructors().length, 1);
        Check.due("public fields", StageHouse.class.getFields().length, 1);
        Check.yes("some twelve classes", StageHouse.class.getDeclaredClasses().length <= 12);
        for (Class<?> inside : StageHouse.class.getDeclaredClasses()) {
            Check.yes(inside + " is static", Modifier.isStatic(inside.getModifiers()));
            for (Method method : inside.getDeclaredMethods()) {
                Check.yes(method + " takes seven at most", method.getParameterCount() <= 7);
                Check.no(method + " bears a public name", Arrays.toString(FACE).contains(" " + method.getName() + "("));
            }
            long fields = Arrays.stream(inside.getDeclaredFields()).filter(f -> !Modifier.isStatic(f.getModifiers())).count();
            Check.yes(inside + " has some twenty fields", fields <= 20);
        }
    }

    private static void words(String source) {
        String bare = source.replaceAll("(?s)/\\*.*?\\*/", "").replaceAll("//.*", "");
        Matcher matcher = Pattern.compile("\\b(throw|throws|try|catch|synchronized|assert|double|float|hashCode|toString|"
                + "currentTimeMillis|nanoTime|Random|Thread|\\w+Exact|package)\\b|->|::|\" \\+|\\+ \"").matcher(bare);
        while (matcher.find()) {
            Check.yes("a word outside the rules: " + matcher.group(), false);
        }
        matcher = Pattern.compile("import ([\\w.]+);").matcher(bare);
        while (matcher.find()) {
            Check.yes("import of " + matcher.group(1), matcher.group(1).equals("java.util.Arrays"));
        }
        int length = 0;
        for (String line : bare.split("\n")) {
            length = line.startsWith("    }") || line.startsWith("        }") ? 0 : length + 1;
            Check.yes("methods are short: " + line, length <= 70);
        }
    }

    /** Objects are made by the constructor alone, so that a long run stays in its room. */
    private static void room() {
        com.sun.management.ThreadMXBean bean = (com.sun.management.ThreadMXBean) ManagementFactory.getThreadMXBean();
        long id = Thread.currentThread().getId();
        busy(new StageHouse());
        long before = bean.getThreadAllocatedBytes(id);
        StageHouse x = new StageHouse();
        long made = bean.getThreadAllocatedBytes(id);
        busy(x);
        long after = bean.getThreadAllocatedBytes(id);
        Check.yes("an object is small: " + (made - before), made - before < 100000);
        Check.yes("calls make nothing: " + (after - made), after - made < 1000);
        System.out.println("an object takes " + (made - before) + " bytes, its calls " + (after - made));
    }

    private static void busy(StageHouse x) {
        x.feed(0x63756520, 0x31207b7d, 0x63756520, 0x32207b7d, 0x20202020);
        x.list(0);
        for (int i = 0; i < 100; i++) {
            x.feed(0x6576656e, 0x74203120, 0x7c206576, 0x656e7420, 0x32202020);
            x.lock(0);
            x.feed(0x64617920, 0x313a2d31, 0x3b202020, 0x20202020, 0x20202020);
            x.rules();
            x.feed(0x303a3530, 0x256f6620, 0x74616b65, 0x6e3b2020, 0x20202020);
            x.shares();
            x.play(0, 1, 0);
            x.axis(0, 0, 100, 5, 5);
            x.event(1, true);
            x.to(0, 100);
            x.tick(20);
            x.row(0, 0, 30);
            x.ask(0, 0, 2, 0, 0, 1000000);
            x.pay(0, x.hold(0, 3));
            x.way(i % 5, 11, 3, 4);
            x.crowd(i % 5, 20);
            x.empty();
            x.share(0, 1);
            x.wire(0);
        }
    }
}
