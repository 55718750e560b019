import java.lang.reflect.Method;
import java.nio.charset.StandardCharsets;
import java.util.ArrayList;
import java.util.Arrays;
import java.util.HashMap;
import java.util.HashSet;
import java.util.List;
import java.util.Map;
import java.util.Random;
import java.util.Set;

/** Runs of calls drawn from fixed seeds, answered by the program and by the slow model alike. */
public final class ModelTest {
    /** Each method with what its numbers mean, a letter each (see number()). */
    private static final String[] METHODS = {
        "fault w", "event e w", "refused e", "refusals t", "alive t", "parent p t", "session p t", "kids p t",
        "under p t", "depth p t", "members p t", "sessions t", "born p", "died p", "object p h t",
        "handles p t", "holds o t", "kind o t", "objects t", "queued o t", "bytes t", "label p h t",
        "sharers p h t", "alike t t", "same t", "shapes", "usual", "how p t", "lost t", "steps t", "raised i t",
        "helpers t", "safe", "dirty p t t", "round t r t i", "copied t r t", "pace t t", "spare", "root", "may s",
        "which s", "plain s", "laws s", "by l", "law", "worth b", "share q u", "rests p p", "gets p p u u",
        "chance p k u", "mean k u", "undo", "anew", "drawn d u", "luck d n p", "count w",
        "image m", "back m", "row s w c", "write s c v", "paste s c s c c", "end y"};
    /** Calls that change things, made more seldom lest nothing be left to ask about. */
    private static final Set<String> SELDOM = new HashSet<>(List.of("undo", "anew", "image", "back", "end", "pace"));

    private final Random random;
    private final FrozenTrees program = new FrozenTrees();
    private final Model model = new Model();
    private final Map<String, Method> ours = new HashMap<>();
    private final Map<String, Method> theirs = new HashMap<>();
    private final Map<String, Integer> told;
    private final String name;
    private final int profile;

    private ModelTest(long seed, Map<String, Integer> told) {
        random = new Random(seed);
        this.told = told;
        name = "seed " + seed;
        profile = random.nextInt(3);
        for (Method m : FrozenTrees.class.getDeclaredMethods()) {
            if (java.lang.reflect.Modifier.isPublic(m.getModifiers())) {
                ours.put(m.getName(), m);
            }
        }
        for (Method m : Model.class.getDeclaredMethods()) {
            if (!java.lang.reflect.Modifier.isPrivate(m.getModifiers()) && ours.containsKey(m.getName())) {
                theirs.put(m.getName(), m);
            }
        }
    }

    private long call(String method, Object... numbers) throws Exception {
        long got = ((Number) ours.get(method).invoke(program, numbers)).longValue();
        long want = ((Number) theirs.get(method).invoke(model, numbers)).longValue();
        Check.due(name + ": " + method + Arrays.toString(numbers), got, want);
        told.merge(method + (want < 0 ? " -" : " +"), 1, Integer::sum);
        return want;
    }

    private int from(int a, int z) {
        return a + random.nextInt(z - a + 1);
    }

    private int oddly(int a, int z) {
        return random.nextInt(25) == 0 ? (random.nextBoolean() ? a - 1 : z + 1) : from(a, z);
    }

    private Object number(char meaning) {
        int events = program.count(2) + program.count(3);
        switch (meaning) {
            case 't':
                return random.nextBoolean() ? oddly(0, events) : from(events / 2, events);
            case 'e':
                return oddly(0, Math.max(0, events - 1));
            case 'p':
                return random.nextInt(3) == 0 ? oddly(1, 15) : from(1, 5);
            case 'q':
                return oddly(2, 7);
            case 'h':
                return random.nextInt(3) == 0 ? oddly(0, 7) : from(0, 3);
            case 'o':
                return random.nextInt(12) == 0 ? oddly(0, 199) : from(0, 9);
            case 'w':
                return oddly(0, 3) + (random.nextInt(4) == 0 ? 3 : 0);
            case 'i':
                return oddly(0, 6);
            case 'r':
                return random.nextInt(3) == 0 ? oddly(1, 40) : from(1, 9);
            case 's':
                return oddly(0, 3);
            case 'l':
                return oddly(0, 3);
            case 'b':
                return oddly(0, 32767);
            case 'u':
                return oddly(0, 1);
            case 'k':
                return oddly(0, 6);
            case 'd':
                return random.nextInt(5) == 0 ? oddly(0, 2000000000) : from(0, 1000);
            case 'n':
                return oddly(1, 20);
            case 'm':
                return oddly(0, 2);
            case 'c':
                return random.nextInt(4) == 0 ? oddly(0, 60) : from(0, 9);
            case 'v':
                return random.nextInt(4) == 0 ? random.nextLong() : (long) from(-1, 15);
            default:
                return oddly(0, 40);
        }
    }

    private void ask() throws Exception {
        String[] parts = METHODS[random.nextInt(METHODS.length)].split(" ");
        if (SELDOM.contains(parts[0]) && random.nextInt(6) != 0) {
            return;
        }
        Object[] numbers = new Object[parts.length - 1];
        for (int i = 0; i < numbers.length; i++) {
            numbers[i] = number(parts[i + 1].charAt(0));
            if (numbers[i] instanceof Integer && random.nextInt(100) == 0) {
                numbers[i] = random.nextBoolean() ? Integer.MIN_VALUE : Integer.MAX_VALUE;
            }
        }
        call(parts[0], numbers);
    }

    /** A row that tells mostly what was, so that may() and laws() have something to find. */
    private void look() throws Exception {
        int slot = from(0, 3);
        int n = from(0, 5);
        call("row", slot, from(0, 3), 3 * n);
        for (int i = 0; i < n; i++) {
            int t = from(0, program.count(2) + program.count(3));
            int p = from(1, 8);
            call("write", slot, 3 * i, (long) t);
            call("write", slot, 3 * i + 1, (long) p);
            long who = random.nextInt(6) == 0 ? from(-1, 4) : model.parent(p, t);
            call("write", slot, 3 * i + 2, who);
        }
        for (String m : List.of("may", "which", "plain", "laws")) {
            call(m, slot);
        }
    }

    /** Kinds drawn from a list in which the more wanted ones stand more often: any, trees, handles. */
    private int someKind() {
        String[] profiles = {"0001234567899", "00000000111222", "0003444555567777788889"};
        String kinds = profiles[profile];
        return kinds.charAt(random.nextInt(kinds.length())) - '0';
    }

    private int[] anyEvent(Model.State now) {
        int kind = someKind();
        List<Integer> living = new ArrayList<>(now.procs.keySet());
        int p = random.nextInt(15) == 0 ? from(1, 15) : living.get(random.nextInt(living.size()));
        if (profile == 1 && living.size() > 1 && random.nextInt(8) != 0) {
            p = living.get(from(1, living.size() - 1));
        }
        int h = random.nextInt(8) == 0 ? from(0, 7) : from(0, 3);
        int g = random.nextInt(8) == 0 ? from(0, 7) : from(0, 3);
        int n = random.nextInt(3) == 0 ? from(1, 30) : from(1, 12);
        int[] numbers = {kind, p, kind == 0 ? from(1, profile == 1 ? 15 : 7) : h, kind == 7 || kind == 8 ? n : g};
        for (int i = Model.FORMS[kind].length() + 1; i < 4; i++) {
            numbers[i] = 0;
        }
        return numbers;
    }

    /** An EVENT behind those that made a state, played in it; most that would be refused are drawn again. */
    private int[] someEvent(Model.State now, int law) {
        for (int i = 0; i < 8; i++) {
            int[] e = anyEvent(now);
            if (profile == 1 && e[0] == 2 && now.under(e[1]) == 0 && random.nextInt(4) != 0) {
                continue;
            }
            int why = Model.play(now, new Model.Event(e[0], e[1], e[2], e[3]), law);
            if (why == 0 || random.nextInt(6) == 0) {
                return e;
            }
        }
        int[] last = anyEvent(now);
        Model.play(now, new Model.Event(last[0], last[1], last[2], last[3]), law);
        return last;
    }

    private String someText() {
        StringBuilder b = new StringBuilder();
        int law = from(0, 3);
        Model.State now = Model.start();
        b.append("system law ").append(law).append(" odds ").append(from(0, 10)).append(';');
        int n = random.nextInt(12) == 0 ? from(39, 42) : from(random.nextInt(4) == 0 ? 0 : 15, 39);
        for (int i = 0; i < n; i++) {
            int[] e = someEvent(now, law);
            b.append(random.nextInt(5) == 0 ? "\n " : "").append(Model.WORDS[e[0]]);
            for (int j = 1; j <= Model.FORMS[e[0]].length(); j++) {
                b.append(j == 1 && random.nextInt(5) == 0 ? "" : " ");
                b.append(random.nextInt(40) == 0 ? "0" : "").append(e[j]);
            }
            b.append(';');
        }
        if (random.nextInt(4) == 0) {
            spoil(b);
        }
        return b.length() > 900 ? b.substring(0, 900) : b.toString();
    }

    private void spoil(StringBuilder b) {
        String signs = ";0189 afz\n\t\r%\u00e9A:`{/";
        for (int i = from(1, 2); i > 0; i--) {
            int at = random.nextInt(b.length());
            switch (from(0, 3)) {
                case 0 -> b.setCharAt(at, signs.charAt(random.nextInt(signs.length())));
                case 1 -> b.insert(at, signs.charAt(random.nextInt(signs.length())));
                case 2 -> b.deleteCharAt(at);
                default -> b.setLength(Math.max(1, at));
            }
        }
    }

    private void tell() throws Exception {
        byte[] text = someText().getBytes(StandardCharsets.ISO_8859_1);
        call("end", 0);
        for (int i = 0; i < text.length; i += 20) {
            Object[] five = new Object[5];
            for (int j = 0; j < 5; j++) {
                five[j] = Check.word(text, i + 4 * j);
            }
            call("feed", five);
        }
        call("end", text.length);
        call("system");
        call("fault", 0);
        call("fault", 1);
    }

    private void act() throws Exception {
        int[] e = someEvent(model.here(), program.count(0));
        if (random.nextInt(12) == 0) {
            e[from(0, 3)] = from(-1, 31);
        }
        call("does", e[0], e[1], e[2], e[3]);
    }

    private void run(int calls) throws Exception {
        if (random.nextInt(4) != 0) {
            tell();
        }
        for (int i = 0; i < calls; i++) {
            int choice = random.nextInt(100);
            if (choice == 0) {
                tell();
            } else if (choice < 10) {
                act();
            } else if (choice < 13) {
                look();
            } else {
                ask();
            }
        }
    }

    public static void main(String[] args) throws Exception {
        int runs = args.length > 0 ? Integer.parseInt(args[0]) : 250;
        long first = args.length > 1 ? Long.parseLong(args[1]) : 0;
        Map<String, Integer> told = new java.util.TreeMap<>();
        for (int seed = 0; seed < runs; seed++) {
            new ModelTest(first + seed, told).run(300);
        }
        if (args.length > 2) {
            System.out.println(told);
        }
        Check.close();
    }
}
