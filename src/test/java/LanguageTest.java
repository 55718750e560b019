import java.lang.management.ManagementFactory;
import java.lang.reflect.Field;
import java.lang.reflect.Method;
import java.lang.reflect.Modifier;
import java.nio.file.Files;
import java.nio.file.Path;
import java.util.Set;
import java.util.TreeSet;
import java.util.regex.Matcher;
import java.util.regex.Pattern;

/** The face of the document, the rules of LANGUAGE.md that a text shows, and the room that calls take. */
public final class LanguageTest {
    private static final Path SOURCE = Path.of("src/main/java/FrozenTrees.java");
    private static final Path DOCUMENT = Path.of("../shared/DOC.md");

    private LanguageTest() {}

    public static void main(String[] args) throws Exception {
        face();
        nested();
        words();
        methods();
        room();
        Check.close();
    }

    private static void face() throws Exception {
        Set<String> want = new TreeSet<>();
        Matcher m = Pattern.compile("(?m)^    public (int|long) (\\w+)\\((.*)\\);$").matcher(Files.readString(DOCUMENT));
        while (m.find()) {
            String types = m.group(3).replaceAll(" \\w+(,|$)", "$1").replace(" ", "");
            want.add(m.group(1) + " " + m.group(2) + "(" + types + ")");
        }
        Set<String> have = new TreeSet<>();
        for (Method method : FrozenTrees.class.getDeclaredMethods()) {
            if (!Modifier.isPrivate(method.getModifiers())) {
                String types = "";
                for (Class<?> type : method.getParameterTypes()) {
                    types += (types.isEmpty() ? "" : ",") + type;
                }
                have.add(method.getReturnType() + " " + method.getName() + "(" + types + ")");
            }
        }
        Check.due("methods of the document", want.size(), 65);
        Check.due("face " + have + " for " + want, have.equals(want) ? 1 : 0, 1);
        int fields = 0;
        for (Field field : FrozenTrees.class.getDeclaredFields()) {
            fields += Modifier.isPrivate(field.getModifiers()) ? 0 : 1;
        }
        Check.due("fields that are not private", fields, 1);
        Check.due("constructors", FrozenTrees.class.getConstructors().length, 1);
        Check.due("NONE", FrozenTrees.NONE, -1);
        Check.due("public and final", FrozenTrees.class.getModifiers(), Modifier.PUBLIC | Modifier.FINAL);
    }

    private static void nested() {
        Set<String> face = new TreeSet<>();
        for (Method method : FrozenTrees.class.getMethods()) {
            face.add(method.getName());
        }
        Class<?>[] classes = FrozenTrees.class.getDeclaredClasses();
        Check.due("classes, at most eleven inside", classes.length <= 11 ? 1 : 0, 1);
        for (Class<?> inside : classes) {
            Check.due(inside + " is static", inside.getModifiers() & Modifier.STATIC, Modifier.STATIC);
            for (Method method : inside.getDeclaredMethods()) {
                Check.due(method + " has a name of its own", face.contains(method.getName()) ? 1 : 0, 0);
                Check.due(method + " takes at most seven", method.getParameterCount() <= 7 ? 1 : 0, 1);
            }
        }
        for (Method method : FrozenTrees.class.getDeclaredMethods()) {
            boolean again = Modifier.isPrivate(method.getModifiers()) && face.contains(method.getName());
            Check.due(method + " is no private one of a public name", again ? 1 : 0, 0);
        }
    }

    private static String bareSource() throws Exception {
        String text = Files.readString(SOURCE);
        return text.replaceAll("(?s)/\\*.*?\\*/", "").replaceAll("//[^\n]*", "").replaceAll("\"[^\"]*\"", "\"\"");
    }

    private static void words() throws Exception {
        String text = bareSource();
        String[] forbidden = {"\\bthrow\\b", "\\btry\\b", "\\bcatch\\b", "\\bsynchronized\\b", "\\bassert\\b", "->", "::",
            "\\bpackage\\b", "Exact\\b", "\\bprotected\\b", "\\bstatic \\{", "\"\\s*\\+", "\\+\\s*\"", "\\bvar\\b"};
        for (String word : forbidden) {
            Check.due("no " + word, Pattern.compile(word).matcher(text).find() ? 1 : 0, 0);
        }
        Matcher imports = Pattern.compile("import [^;]*;").matcher(text);
        while (imports.find()) {
            Check.due(imports.group(), imports.group().equals("import java.util.Arrays;") ? 1 : 0, 1);
        }
        Matcher statics = Pattern.compile("(?m)^ *(?:public |private )?static (?!final|class)[^(]*;").matcher(text);
        Check.due("static fields are final", statics.find() ? 1 : 0, 0);
        Check.due("signs 1 .. 127", text.chars().allMatch(c -> c > 0 && c < 128) ? 1 : 0, 1);
    }

    private static void methods() throws Exception {
        Matcher m = Pattern.compile("(?m)^( {4}| {8})(?:[a-zA-Z\\[\\]]+ )+\\w+\\([^)]*\\) \\{\n(?:.*\n)*?\\1\\}$")
            .matcher(bareSource());
        int found = 0;
        while (m.find()) {
            found++;
            long lines = m.group().lines().count();
            Check.due("lines of " + m.group().lines().findFirst().orElse(""), lines <= 60 ? 1 : 0, 1);
        }
        Check.due("methods found", found > 100 ? 1 : 0, 1);
    }

    /** Runs every kind of call; all of them together may make next to nothing. */
    private static void room() {
        var threads = (com.sun.management.ThreadMXBean) ManagementFactory.getThreadMXBean();
        long me = Thread.currentThread().getId();
        FrozenTrees first = new FrozenTrees();
        Check.feed(first, "system law 0 odds 5;fork 1 2;pipe 2 0 1;fork 2 3;exit 2;");
        first.system();
        long sum = calls(first);
        long start = threads.getThreadAllocatedBytes(me);
        FrozenTrees x = new FrozenTrees();
        long made = threads.getThreadAllocatedBytes(me);
        Check.due("an object takes at most 64 KiB: " + (made - start), made - start <= 65536 ? 1 : 0, 1);
        Check.feed(x, "system law 3 odds 5;fork 1 2;pipe 2 0 1;fork 2 3;exit 2;");
        x.system();
        long before = threads.getThreadAllocatedBytes(me);
        for (int i = 0; i < 10; i++) {
            sum += calls(x);
        }
        long taken = threads.getThreadAllocatedBytes(me) - before;
        Check.due("calls make nothing: " + taken + " bytes, " + (sum == 0), taken < 2048 ? 1 : 0, 1);
    }

    private static long calls(FrozenTrees x) {
        long sum = x.shapes() + x.usual() + x.safe() + x.pace(0, 4) + x.spare() + x.root() + x.law() + x.worth(7);
        sum += x.share(2, 0) + x.rests(2, 3) + x.gets(3, 4, 0, 1) + x.chance(3, 4, 0) + x.mean(4, 1);
        sum += x.drawn(7, 1) + x.luck(7, 20, 3) + x.image(0) + x.row(0, 0, 3) + x.write(0, 1, 3) + x.may(0);
        sum += x.which(0) + x.plain(0) + x.laws(0) + x.does(0, 3, 5, 0) + x.undo() + x.anew() + x.back(0);
        sum += x.label(3, 0, 4) + x.sharers(3, 0, 4) + x.alike(1, 2) + x.same(3) + x.how(3, 4) + x.steps(4);
        sum += x.copied(0, 2, 4) + x.dirty(3, 0, 4) + x.paste(0, 0, 0, 1, 2) + x.queued(0, 4) + x.bytes(4);
        return sum + x.refusals(4) + x.born(3) + x.died(2) + x.count(6) + x.event(0, 0);
    }
}
