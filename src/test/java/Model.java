import java.math.BigInteger;
import java.util.ArrayList;
import java.util.HashMap;
import java.util.HashSet;
import java.util.List;
import java.util.Map;
import java.util.Set;
import java.util.TreeMap;
import java.util.TreeSet;
import java.util.function.IntPredicate;

/** The document once more, in another and slower way: each answer is reckoned from the text anew. */
final class Model {
    static final String[] WORDS = {
        "fork", "lead", "exit", "open", "pipe", "copy", "close", "write", "read", "touch"};
    /** The numbers of each kind: P process, H handle, N amount. */
    static final String[] FORMS = {"PP", "P", "P", "PH", "PHH", "PHH", "PH", "PHN", "PHN", "PH"};

    record Event(int kind, int p, int h, int g) {}

    record Sys(int law, int odds, List<Event> told, List<Event> acts) {
        List<Event> all() {
            List<Event> all = new ArrayList<>(told);
            all.addAll(acts);
            return all;
        }
    }

    static final class Pipe {
        int bytes;
        Thing in;
        Thing out;
    }

    static final class Thing {
        int number;
        int kind;
        Pipe pipe;
    }

    static final class Proc {
        int parent;
        int session;
        TreeMap<Integer, Thing> handles = new TreeMap<>();
    }

    static final class State {
        TreeMap<Integer, Proc> procs = new TreeMap<>();
        Set<Integer> ever = new HashSet<>();
        List<Thing> things = new ArrayList<>();
        List<Integer> whys = new ArrayList<>();
        /** For each EVENT which pages of whom it made dirty, {process, bits}. */
        List<int[]> soils = new ArrayList<>();

        int holders(Thing t) {
            int n = 0;
            for (Proc q : procs.values()) {
                for (Thing x : q.handles.values()) {
                    if (x == t) {
                        n++;
                    }
                }
            }
            return n;
        }

        List<Integer> chain(int p) {
            List<Integer> up = new ArrayList<>();
            for (int q = p; q != 0; q = procs.get(q).parent) {
                up.add(q);
            }
            return up;
        }

        int under(int p) {
            int n = 0;
            for (int q : procs.keySet()) {
                if (q != p && chain(q).contains(p)) {
                    n++;
                }
            }
            return n;
        }

        int bits() {
            int b = 0;
            for (int p : procs.keySet()) {
                b |= 1 << (p - 1);
            }
            return b;
        }
    }

    private final StringBuilder tape = new StringBuilder();
    private Sys sys;
    private int fault;
    private int place = -1;
    private final Sys[] images = new Sys[3];
    private final boolean[] imaged = new boolean[3];
    private final long[][] rows = new long[4][];
    private final int[] widths = new int[4];

    // ---- running

    static State start() {
        State s = new State();
        Proc one = new Proc();
        one.session = 1;
        s.procs.put(1, one);
        s.ever.add(1);
        return s;
    }

    static State run(List<Event> events, int law, IntPredicate in) {
        State s = start();
        for (int i = 0; i < events.size(); i++) {
            s.soils.add(null);
            s.whys.add(in.test(i) ? play(s, events.get(i), law) : -9);
        }
        return s;
    }

    static int play(State s, Event e, int law) {
        Proc p = s.procs.get(e.p);
        if (p == null) {
            return 1;
        }
        Thing at = p.handles.get(e.h);
        switch (WORDS[e.kind]) {
            case "fork" -> {
                if (s.ever.contains(e.h)) {
                    return 2;
                }
                Proc c = new Proc();
                c.parent = e.p;
                c.session = p.session;
                c.handles.putAll(p.handles);
                s.procs.put(e.h, c);
                s.ever.add(e.h);
                soil(s, e.h, 255);
            }
            case "lead" -> {
                if (p.session == e.p) {
                    return 2;
                }
                p.session = e.p;
            }
            case "exit" -> {
                if (e.p == 1) {
                    return 2;
                }
                leave(s, e.p, law);
            }
            case "open" -> {
                if (at != null) {
                    return 3;
                }
                p.handles.put(e.h, thing(s, 0, null));
            }
            case "pipe" -> {
                if (at != null || p.handles.containsKey(e.g) || e.h == e.g) {
                    return 3;
                }
                Pipe pipe = new Pipe();
                pipe.in = thing(s, 1, pipe);
                pipe.out = thing(s, 2, pipe);
                p.handles.put(e.h, pipe.in);
                p.handles.put(e.g, pipe.out);
            }
            case "copy" -> {
                if (p.handles.containsKey(e.g) || at == null) {
                    return 3;
                }
                p.handles.put(e.g, at);
            }
            case "close" -> {
                if (at == null) {
                    return 3;
                }
                p.handles.remove(e.h);
            }
            case "write" -> {
                if (at == null) {
                    return 3;
                }
                if (at.kind != 2) {
                    return 4;
                }
                if (s.holders(at.pipe.in) == 0) {
                    return 5;
                }
                if (at.pipe.bytes + e.g > 60) {
                    return 6;
                }
                at.pipe.bytes += e.g;
            }
            case "read" -> {
                if (at == null) {
                    return 3;
                }
                if (at.kind != 1) {
                    return 4;
                }
                if (at.pipe.bytes < e.g && s.holders(at.pipe.out) > 0) {
                    return 5;
                }
                at.pipe.bytes = Math.max(0, at.pipe.bytes - e.g);
            }
            default -> soil(s, e.p, 1 << e.h);
        }
        return 0;
    }

    private static void soil(State s, int process, int bits) {
        if (!s.soils.isEmpty()) {
            s.soils.set(s.soils.size() - 1, new int[] {process, bits});
        }
    }

    private static Thing thing(State s, int kind, Pipe pipe) {
        Thing t = new Thing();
        t.number = s.things.size();
        t.kind = kind;
        t.pipe = pipe;
        s.things.add(t);
        return t;
    }

    private static void leave(State s, int gone, int law) {
        int above = s.procs.get(gone).parent;
        TreeSet<Integer> orphans = new TreeSet<>();
        for (var q : s.procs.entrySet()) {
            if (q.getValue().parent == gone) {
                orphans.add(q.getKey());
            }
        }
        Proc ghost = s.procs.get(gone);
        for (int c : orphans) {
            Proc child = s.procs.get(c);
            if (law == 0) {
                child.parent = 1;
            } else if (law == 1 || law == 3) {
                child.parent = law == 1 || c == orphans.first() ? above : orphans.first();
            } else {
                int leader = child.session;
                boolean can = leader != gone && s.procs.containsKey(leader) && leader != c
                    && !s.chain(leader).contains(c);
                child.parent = can ? leader : 1;
            }
        }
        ghost.handles.clear();
        s.procs.remove(gone);
    }

    private List<Event> all() {
        return sys.all();
    }

    private State at(int tick) {
        return run(all().subList(0, tick), sys.law, i -> true);
    }

    private State last() {
        return at(all().size());
    }

    /** The state at the last TICK, or at the start of any SYSTEM. */
    State here() {
        return sys == null ? start() : last();
    }

    // ---- bounds

    private boolean tickOk(int t) {
        return sys != null && t >= 0 && t <= all().size();
    }

    private static boolean in(int v, int a, int z) {
        return v >= a && v <= z;
    }

    // ---- the tape

    int feed(int a, int b, int c, int d, int e) {
        if (tape.length() + 20 > 900) {
            return -1;
        }
        for (int v : new int[] {a, b, c, d, e}) {
            for (int s = 3; s >= 0; s--) {
                tape.append((char) ((v >> (8 * s)) & 0xFF));
            }
        }
        return tape.length();
    }

    int end(int n) {
        if (!in(n, 0, tape.length())) {
            return -1;
        }
        tape.setLength(n);
        return n;
    }

    record Token(String text, int at) {}

    private static List<Token> tokens(String s) {
        List<Token> list = new ArrayList<>();
        var m = java.util.regex.Pattern.compile("[a-z]+|[0-9]+|[^ \\n]", java.util.regex.Pattern.DOTALL).matcher(s);
        while (m.find()) {
            list.add(new Token(m.group(), m.start()));
        }
        list.add(new Token("", s.length()));
        return list;
    }

    /** What may stand next in a LINE: a word as itself, a number as "low..high". */
    private static List<String> form(String word) {
        if (word.equals("system")) {
            return List.of("law", "0..3", "odds", "0..10", ";");
        }
        List<String> list = new ArrayList<>();
        String f = FORMS[List.of(WORDS).indexOf(word)];
        for (char c : f.toCharArray()) {
            list.add(c == 'P' ? "1..15" : c == 'H' ? "0..7" : "1..30");
        }
        list.add(";");
        return list;
    }

    int system() {
        List<Token> list = tokens(tape.toString());
        tape.setLength(0);
        fault = 0;
        place = -1;
        List<List<Integer>> lines = new ArrayList<>();
        int i = 0;
        while (!list.get(i).text.isEmpty()) {
            String word = list.get(i).text;
            boolean can = lines.isEmpty() ? word.equals("system") : List.of(WORDS).contains(word);
            if (!can || lines.size() == 41) {
                return faulty(can ? 3 : 1, list.get(i).at);
            }
            i++;
            List<Integer> line = new ArrayList<>();
            line.add(lines.isEmpty() ? -1 : List.of(WORDS).indexOf(word));
            for (String want : form(word)) {
                Token t = list.get(i);
                if (want.contains("..")) {
                    if (!t.text.matches("[0-9]+")) {
                        return faulty(1, t.at);
                    }
                    BigInteger v = new BigInteger(t.text);
                    String[] ends = want.split("\\.\\.");
                    if (v.compareTo(new BigInteger(ends[0])) < 0 || v.compareTo(new BigInteger(ends[1])) > 0) {
                        return faulty(2, t.at);
                    }
                    line.add(v.intValue());
                } else if (!t.text.equals(want)) {
                    return faulty(1, t.at);
                }
                i++;
            }
            lines.add(line);
        }
        if (lines.isEmpty()) {
            sys = null;
            return 0;
        }
        List<Event> told = new ArrayList<>();
        for (List<Integer> line : lines.subList(1, lines.size())) {
            while (line.size() < 4) {
                line.add(0);
            }
            told.add(new Event(line.get(0), line.get(1), line.get(2), line.get(3)));
        }
        sys = new Sys(lines.get(0).get(1), lines.get(0).get(2), told, List.of());
        return lines.size();
    }

    private int faulty(int what, int where) {
        fault = what;
        place = where;
        return -4;
    }

    int fault(int what) {
        return what == 0 ? fault : what == 1 ? place : -1;
    }

    int event(int event, int what) {
        if (sys == null || !in(event, 0, all().size() - 1) || !in(what, 0, 3)) {
            return -2;
        }
        Event e = all().get(event);
        if (what > FORMS[e.kind].length()) {
            return -1;
        }
        return new int[] {e.kind, e.p, e.h, e.g}[what];
    }

    int refused(int event) {
        if (sys == null || !in(event, 0, all().size() - 1)) {
            return -2;
        }
        return last().whys.get(event);
    }

    int refusals(int tick) {
        if (!tickOk(tick)) {
            return -2;
        }
        return (int) at(tick).whys.stream().filter(w -> w != 0).count();
    }

    int alive(int tick) {
        return tickOk(tick) ? at(tick).bits() : -2;
    }

    private Proc proc(int process, int tick) {
        return at(tick).procs.get(process);
    }

    private boolean bad(int process, int tick) {
        return !in(process, 1, 15) || !tickOk(tick);
    }

    int parent(int process, int tick) {
        if (bad(process, tick)) {
            return -2;
        }
        Proc p = proc(process, tick);
        return p == null ? -1 : p.parent;
    }

    int session(int process, int tick) {
        if (bad(process, tick)) {
            return -2;
        }
        Proc p = proc(process, tick);
        return p == null ? -1 : p.session;
    }

    int kids(int process, int tick) {
        if (bad(process, tick)) {
            return -2;
        }
        int bits = 0;
        for (var q : at(tick).procs.entrySet()) {
            if (q.getValue().parent == process) {
                bits += 1 << (q.getKey() - 1);
            }
        }
        return bits;
    }

    int under(int process, int tick) {
        return bad(process, tick) ? -2 : at(tick).under(process);
    }

    int depth(int process, int tick) {
        if (bad(process, tick)) {
            return -2;
        }
        State s = at(tick);
        return s.procs.containsKey(process) ? s.chain(process).size() : -1;
    }

    int members(int session, int tick) {
        if (bad(session, tick)) {
            return -2;
        }
        int bits = 0;
        for (var q : at(tick).procs.entrySet()) {
            if (q.getValue().session == session) {
                bits += 1 << (q.getKey() - 1);
            }
        }
        return bits;
    }

    int sessions(int tick) {
        if (!tickOk(tick)) {
            return -2;
        }
        Set<Integer> set = new HashSet<>();
        at(tick).procs.values().forEach(p -> set.add(p.session));
        return set.size();
    }

    int born(int process) {
        if (bad(process, 0)) {
            return -2;
        }
        for (int t = 0; t <= all().size(); t++) {
            if (at(t).procs.containsKey(process)) {
                return t;
            }
        }
        return -1;
    }

    int died(int process) {
        if (bad(process, 0)) {
            return -2;
        }
        for (int t = 1; t <= all().size(); t++) {
            if (at(t - 1).procs.containsKey(process) && !at(t).procs.containsKey(process)) {
                return t;
            }
        }
        return -1;
    }

    // ---- handles

    private Thing held(int process, int handle, int tick) {
        Proc p = proc(process, tick);
        return p == null ? null : p.handles.get(handle);
    }

    int object(int process, int handle, int tick) {
        if (bad(process, tick) || !in(handle, 0, 7)) {
            return -2;
        }
        Thing t = held(process, handle, tick);
        return t == null ? -1 : t.number;
    }

    int handles(int process, int tick) {
        if (bad(process, tick)) {
            return -2;
        }
        Proc p = proc(process, tick);
        return p == null ? 0 : p.handles.keySet().stream().mapToInt(h -> 1 << h).sum();
    }

    private boolean badObject(int object, int tick) {
        return !in(object, 0, 199) || !tickOk(tick);
    }

    int holds(int object, int tick) {
        if (badObject(object, tick)) {
            return -2;
        }
        State s = at(tick);
        return object < s.things.size() ? s.holders(s.things.get(object)) : 0;
    }

    int kind(int object, int tick) {
        if (badObject(object, tick)) {
            return -2;
        }
        State s = at(tick);
        return object < s.things.size() ? s.things.get(object).kind : -1;
    }

    int objects(int tick) {
        if (!tickOk(tick)) {
            return -2;
        }
        State s = at(tick);
        return (int) s.things.stream().filter(t -> s.holders(t) > 0).count();
    }

    int queued(int object, int tick) {
        if (badObject(object, tick)) {
            return -2;
        }
        State s = at(tick);
        if (object >= s.things.size() || s.things.get(object).pipe == null) {
            return -1;
        }
        Pipe pipe = s.things.get(object).pipe;
        return s.holders(pipe.in) + s.holders(pipe.out) == 0 ? -1 : pipe.bytes;
    }

    int bytes(int tick) {
        if (!tickOk(tick)) {
            return -2;
        }
        Set<Pipe> pipes = new HashSet<>();
        for (Proc p : at(tick).procs.values()) {
            p.handles.values().stream().filter(t -> t.pipe != null).forEach(t -> pipes.add(t.pipe));
        }
        return pipes.stream().mapToInt(p -> p.bytes).sum();
    }

    private static Map<Thing, Integer> labels(State s) {
        Map<Thing, Integer> map = new java.util.LinkedHashMap<>();
        for (Proc p : s.procs.values()) {
            for (Thing t : p.handles.values()) {
                map.putIfAbsent(t, map.size());
            }
        }
        return map;
    }

    int label(int process, int handle, int tick) {
        if (bad(process, tick) || !in(handle, 0, 7)) {
            return -2;
        }
        State s = at(tick);
        Proc p = s.procs.get(process);
        return p == null || p.handles.get(handle) == null ? -1 : labels(s).get(p.handles.get(handle));
    }

    int sharers(int process, int handle, int tick) {
        if (bad(process, tick) || !in(handle, 0, 7)) {
            return -2;
        }
        State s = at(tick);
        Proc p = s.procs.get(process);
        if (p == null || p.handles.get(handle) == null) {
            return 0;
        }
        int bits = 0;
        for (var q : s.procs.entrySet()) {
            if (q.getValue().handles.containsValue(p.handles.get(handle))) {
                bits += 1 << (q.getKey() - 1);
            }
        }
        return bits;
    }

    // ---- shapes

    private String shape(int tick) {
        State s = at(tick);
        Map<Thing, Integer> labels = labels(s);
        StringBuilder b = new StringBuilder();
        for (var q : s.procs.entrySet()) {
            b.append(q.getKey()).append('<').append(q.getValue().parent).append('@').append(q.getValue().session);
            q.getValue().handles.forEach((h, t) -> b.append(' ').append(h).append('=').append(labels.get(t)));
            b.append('\n');
        }
        for (Thing t : labels.keySet()) {
            b.append("frw".charAt(t.kind));
            if (t.pipe != null) {
                Thing other = t == t.pipe.in ? t.pipe.out : t.pipe.in;
                b.append(t.pipe.bytes).append('~').append(labels.getOrDefault(other, -1));
            }
            b.append(' ');
        }
        return b.toString();
    }

    int alike(int tick, int other) {
        if (!tickOk(tick) || !tickOk(other)) {
            return -2;
        }
        return shape(tick).equals(shape(other)) ? 1 : 0;
    }

    int same(int tick) {
        if (!tickOk(tick)) {
            return -2;
        }
        int t = 0;
        while (!shape(t).equals(shape(tick))) {
            t++;
        }
        return t;
    }

    private Map<String, List<Integer>> shapeTicks() {
        Map<String, List<Integer>> map = new java.util.LinkedHashMap<>();
        for (int t = 0; t <= all().size(); t++) {
            map.computeIfAbsent(shape(t), k -> new ArrayList<>()).add(t);
        }
        return map;
    }

    int shapes() {
        return sys == null ? -2 : shapeTicks().size();
    }

    int usual() {
        if (sys == null) {
            return -2;
        }
        List<Integer> best = List.of();
        for (List<Integer> ticks : shapeTicks().values()) {
            best = ticks.size() > best.size() ? ticks : best;
        }
        return best.get(0);
    }

    // ---- the plan

    /** Who is raised, in order, with how. */
    private static java.util.LinkedHashMap<Integer, Integer> plan(State s) {
        var up = new java.util.LinkedHashMap<Integer, Integer>();
        up.put(1, 1);
        boolean more = true;
        while (more) {
            more = false;
            for (int p : s.procs.keySet()) {
                int h = up.containsKey(p) ? 0 : howNow(s, up, p);
                if (h != 0) {
                    up.put(p, h);
                    more = true;
                    break;
                }
            }
        }
        return up;
    }

    private static int howNow(State s, Map<Integer, Integer> up, int p) {
        Proc me = s.procs.get(p);
        Proc dad = s.procs.get(me.parent);
        if (!up.containsKey(me.parent)) {
            return 0;
        }
        if (me.session == p) {
            return 1;
        }
        if (me.session == dad.session) {
            return 2;
        }
        if (me.parent != 1 && up.get(me.parent) == 1 && s.procs.get(dad.parent).session == me.session) {
            return 3;
        }
        return me.parent == 1 && up.containsKey(me.session) ? 4 : 0;
    }

    int how(int process, int tick) {
        if (bad(process, tick)) {
            return -2;
        }
        State s = at(tick);
        return s.procs.containsKey(process) ? plan(s).getOrDefault(process, 0) : -1;
    }

    private static int lostOf(State s) {
        int bits = s.bits();
        for (int p : plan(s).keySet()) {
            bits -= 1 << (p - 1);
        }
        return bits;
    }

    int lost(int tick) {
        return tickOk(tick) ? lostOf(at(tick)) : -2;
    }

    int steps(int tick) {
        if (!tickOk(tick)) {
            return -2;
        }
        int sum = 0;
        for (var e : plan(at(tick)).entrySet()) {
            sum += e.getKey() == 1 ? 0 : new int[] {0, 2, 1, 1, 3}[e.getValue()];
        }
        return sum;
    }

    int raised(int i, int tick) {
        if (i < 0 || !tickOk(tick)) {
            return -2;
        }
        List<Integer> order = new ArrayList<>(plan(at(tick)).keySet());
        return i < order.size() ? order.get(i) : -1;
    }

    int helpers(int tick) {
        return tickOk(tick) ? (int) plan(at(tick)).values().stream().filter(h -> h == 4).count() : -2;
    }

    int safe() {
        if (sys == null) {
            return -2;
        }
        int t = all().size();
        while (lost(t) != 0) {
            t--;
        }
        return t;
    }

    // ---- pages

    private int soiled(int process, int a, int z) {
        State s = at(z);
        int bits = 0;
        for (int i = a; i < z; i++) {
            int[] soil = s.soils.get(i);
            if (soil != null && soil[0] == process) {
                bits |= soil[1];
            }
        }
        return s.procs.containsKey(process) ? bits : 0;
    }

    int dirty(int process, int a, int z) {
        return bad(process, a) || !tickOk(z) || z < a ? -2 : soiled(process, a, z);
    }

    private List<Integer> rounds(int a, int e, int z) {
        List<Integer> marks = new ArrayList<>();
        for (int t = a; t < z; t += e) {
            marks.add(t);
        }
        marks.add(z);
        List<Integer> pages = new ArrayList<>();
        pages.add(8 * at(a).procs.size());
        for (int i = 1; i < marks.size(); i++) {
            int n = 0;
            for (int p = 1; p <= 15; p++) {
                n += Integer.bitCount(soiled(p, marks.get(i - 1), marks.get(i)));
            }
            pages.add(n);
        }
        return pages;
    }

    int round(int a, int e, int z, int round) {
        if (!tickOk(a) || !tickOk(z) || z <= a || !in(e, 1, 40) || round < 0) {
            return -2;
        }
        List<Integer> pages = rounds(a, e, z);
        return round < pages.size() ? pages.get(round) : -1;
    }

    int copied(int a, int e, int z) {
        if (!tickOk(a) || !tickOk(z) || z <= a || !in(e, 1, 40)) {
            return -2;
        }
        return rounds(a, e, z).stream().mapToInt(n -> n).sum();
    }

    int pace(int a, int z) {
        if (!tickOk(a) || !tickOk(z) || z <= a) {
            return -2;
        }
        int best = 0;
        int score = Integer.MAX_VALUE;
        for (int e = 40; e >= 1; e--) {
            List<Integer> pages = rounds(a, e, z);
            int mine = 100000 * pages.get(pages.size() - 1) + copied(a, e, z);
            if (mine < score) {
                score = mine;
                best = e;
            }
        }
        return best;
    }

    // ---- left out

    private State without(int event) {
        return run(all(), sys.law, i -> i != event);
    }

    private static int refusedOf(State s, int but) {
        int n = 0;
        for (int i = 0; i < s.whys.size(); i++) {
            n += i != but && s.whys.get(i) > 0 ? 1 : 0;
        }
        return n;
    }

    int spare() {
        if (sys == null) {
            return -2;
        }
        int best = -1;
        int most = last().procs.size();
        for (int e = 0; e < sys.told.size(); e++) {
            if (without(e).procs.size() > most) {
                most = without(e).procs.size();
                best = e;
            }
        }
        return best;
    }

    int root() {
        if (sys == null) {
            return -2;
        }
        int best = -1;
        int most = 0;
        for (int e = 0; e < sys.told.size(); e++) {
            int more = refusedOf(without(e), e) - refusedOf(last(), e);
            if (more > most) {
                most = more;
                best = e;
            }
        }
        return best;
    }

    private int seenProblem(int slot) {
        if (!in(slot, 0, 3) || sys == null) {
            return -2;
        }
        if (rows[slot] == null) {
            return -6;
        }
        long[] r = rows[slot];
        if (r.length % 3 != 0) {
            return -2;
        }
        for (int i = 0; i < r.length; i += 3) {
            if (r[i] < 0 || r[i] > all().size() || r[i + 1] < 1 || r[i + 1] > 15 || r[i + 2] < -1 || r[i + 2] > 15) {
                return -2;
            }
        }
        return 0;
    }

    private boolean fits(int slot, int law, int left) {
        long[] r = rows[slot];
        for (int i = 0; i < r.length; i += 3) {
            State s = run(all().subList(0, (int) r[i]), law, e -> e != left);
            Proc p = s.procs.get((int) r[i + 1]);
            if (r[i + 2] != (p == null ? -1 : p.parent)) {
                return false;
            }
        }
        return true;
    }

    int may(int slot) {
        if (seenProblem(slot) != 0) {
            return seenProblem(slot);
        }
        int n = 0;
        for (int e = 0; e < sys.told.size(); e++) {
            n += fits(slot, sys.law, e) ? 1 : 0;
        }
        return n;
    }

    int which(int slot) {
        if (seenProblem(slot) != 0) {
            return seenProblem(slot);
        }
        for (int e = 0; e < sys.told.size(); e++) {
            if (fits(slot, sys.law, e)) {
                return e;
            }
        }
        return -1;
    }

    int plain(int slot) {
        int no = seenProblem(slot);
        return no != 0 ? no : fits(slot, sys.law, -1) ? 1 : 0;
    }

    int laws(int slot) {
        int no = seenProblem(slot);
        if (no != 0) {
            return no;
        }
        int bits = 0;
        for (int l = 3; l >= 0; l--) {
            bits = 2 * bits + (fits(slot, l, -1) ? 1 : 0);
        }
        return bits;
    }

    int by(int law) {
        if (!in(law, 0, 3) || sys == null) {
            return -2;
        }
        return Integer.bitCount(lostOf(run(all(), law, i -> true)));
    }

    int law() {
        if (sys == null) {
            return -2;
        }
        int best = 3;
        for (int l = 2; l >= 0; l--) {
            best = by(l) <= by(best) ? l : best;
        }
        return best;
    }

    // ---- shares, game, chance

    int worth(int set) {
        if (!in(set, 0, 32767) || sys == null) {
            return -2;
        }
        List<Event> all = all();
        return run(all, sys.law, i -> all.get(i).p == 1 || (set >> (all.get(i).p - 1) & 1) == 1).procs.size();
    }

    private static void orders(List<Integer> head, Set<Integer> rest, List<List<Integer>> into) {
        if (rest.isEmpty()) {
            into.add(head);
        }
        for (int r : rest) {
            List<Integer> longer = new ArrayList<>(head);
            longer.add(r);
            Set<Integer> fewer = new TreeSet<>(rest);
            fewer.remove(r);
            orders(longer, fewer, into);
        }
    }

    int share(int process, int what) {
        if (!in(process, 2, 7) || !in(what, 0, 1) || sys == null) {
            return -1000;
        }
        List<List<Integer>> orders = new ArrayList<>();
        orders(List.of(), new TreeSet<>(List.of(2, 3, 4, 5, 6, 7)), orders);
        Map<Integer, Integer> known = new HashMap<>();
        long sum = 0;
        for (List<Integer> order : orders) {
            int set = 1;
            for (int p = 8; p <= 15; p++) {
                set |= 1 << (p - 1);
            }
            for (int p : order) {
                int with = set | 1 << (p - 1);
                if (p == process) {
                    sum += known.computeIfAbsent(with, this::worth) - known.computeIfAbsent(set, this::worth);
                }
                set = with;
            }
        }
        return (int) terms(BigInteger.valueOf(sum), BigInteger.valueOf(orders.size()), what);
    }

    private static long terms(BigInteger a, BigInteger b, int what) {
        BigInteger g = a.gcd(b);
        return (what == 0 ? a : b).divide(g).longValueExact();
    }

    private int[] pay(int one, int two, int x, int y) {
        State s = last();
        int[] pay = new int[2];
        if (x == 1) {
            pay[0] = play(s, new Event(2, one, 0, 0), sys.law) == 0 ? 2 : 0;
        }
        if (y == 1) {
            pay[1] = play(s, new Event(2, two, 0, 0), sys.law) == 0 ? 2 : 0;
        }
        if (x == 0) {
            pay[0] = s.procs.containsKey(one) ? 3 * s.under(one) : 0;
        }
        if (y == 0) {
            pay[1] = s.procs.containsKey(two) ? 3 * s.under(two) : 0;
        }
        return pay;
    }

    int rests(int process, int other) {
        if (!in(process, 2, 15) || !in(other, 2, 15) || process == other || sys == null) {
            return -2;
        }
        int bits = 0;
        for (int x = 0; x < 2; x++) {
            for (int y = 0; y < 2; y++) {
                int[] now = pay(process, other, x, y);
                if (pay(process, other, 1 - x, y)[0] <= now[0] && pay(process, other, x, 1 - y)[1] <= now[1]) {
                    bits += new int[][] {{1, 4}, {2, 8}}[x][y];
                }
            }
        }
        return bits;
    }

    int gets(int process, int other, int x, int y) {
        if (!in(process, 2, 15) || !in(other, 2, 15) || process == other || sys == null) {
            return -2;
        }
        return in(x, 0, 1) && in(y, 0, 1) ? pay(process, other, x, y)[0] : -2;
    }

    private interface Measure {
        int of(State s);
    }

    private long expect(int k, int what, Measure m) {
        List<Event> all = all();
        int from = all.size() - k;
        BigInteger sum = BigInteger.ZERO;
        for (int mask = 0; mask < 1 << k; mask++) {
            int outs = mask;
            State s = run(all, sys.law, i -> i < from || (outs >> (i - from) & 1) == 0);
            BigInteger w = BigInteger.valueOf(sys.odds).pow(Integer.bitCount(mask))
                .multiply(BigInteger.valueOf(10 - sys.odds).pow(k - Integer.bitCount(mask)));
            sum = sum.add(w.multiply(BigInteger.valueOf(m.of(s))));
        }
        return terms(sum, BigInteger.TEN.pow(k), what);
    }

    private boolean badChance(int k, int what) {
        return sys == null || !in(k, 0, 6) || k > all().size() || !in(what, 0, 1);
    }

    long chance(int process, int k, int what) {
        if (!in(process, 1, 15) || badChance(k, what)) {
            return -2;
        }
        return expect(k, what, s -> s.procs.containsKey(process) ? 1 : 0);
    }

    long mean(int k, int what) {
        return badChance(k, what) ? -2 : expect(k, what, s -> s.procs.size());
    }

    // ---- acts

    int does(int kind, int p, int h, int g) {
        if (sys == null || !in(kind, 0, 9)) {
            return -2;
        }
        int[] numbers = {p, h, g};
        for (int i = 0; i < 3; i++) {
            char c = i < FORMS[kind].length() ? FORMS[kind].charAt(i) : '0';
            boolean ok = switch (c) {
                case 'P' -> in(numbers[i], 1, 15);
                case 'H' -> in(numbers[i], 0, 7);
                case 'N' -> in(numbers[i], 1, 30);
                default -> numbers[i] == 0;
            };
            if (!ok) {
                return -2;
            }
        }
        if (sys.acts.size() == 30) {
            return -5;
        }
        List<Event> acts = new ArrayList<>(sys.acts);
        acts.add(new Event(kind, p, h, g));
        sys = new Sys(sys.law, sys.odds, sys.told, acts);
        return refused(all().size() - 1);
    }

    int undo() {
        if (sys == null || sys.acts.isEmpty()) {
            return sys == null ? -2 : -5;
        }
        sys = new Sys(sys.law, sys.odds, sys.told, sys.acts.subList(0, sys.acts.size() - 1));
        return sys.acts.size();
    }

    int anew() {
        if (sys == null) {
            return -2;
        }
        int were = sys.acts.size();
        sys = new Sys(sys.law, sys.odds, sys.told, List.of());
        return were;
    }

    /** The EVENTS left out of a run drawn. */
    private Set<Integer> drawnOut(long seed) {
        BigInteger x = BigInteger.valueOf(seed);
        Set<Integer> outs = new HashSet<>();
        for (int i = 0; i < all().size(); i++) {
            x = x.multiply(BigInteger.valueOf(1103515245)).add(BigInteger.valueOf(12345))
                .mod(BigInteger.valueOf(2147483648L));
            if (x.divide(BigInteger.valueOf(65536)).mod(BigInteger.TEN).intValue() < sys.odds) {
                outs.add(i);
            }
        }
        return outs;
    }

    int drawn(int seed, int what) {
        if (!in(seed, 0, 2000000000) || !in(what, 0, 1) || sys == null) {
            return -2;
        }
        Set<Integer> outs = drawnOut(seed);
        return what == 0 ? outs.size() : run(all(), sys.law, i -> !outs.contains(i)).procs.size();
    }

    int luck(int seed, int n, int process) {
        if (!in(seed, 0, 2000000000) || !in(n, 1, 20) || !in(process, 1, 15) || sys == null) {
            return -2;
        }
        int times = 0;
        for (int i = 0; i < n; i++) {
            Set<Integer> outs = drawnOut((long) seed + i);
            times += run(all(), sys.law, e -> !outs.contains(e)).procs.containsKey(process) ? 1 : 0;
        }
        return times;
    }

    int count(int what) {
        int rowsThere = 0;
        for (long[] r : rows) {
            rowsThere += r == null ? 0 : 1;
        }
        return switch (what) {
            case 0 -> sys == null ? 0 : sys.law;
            case 1 -> sys == null ? 0 : sys.odds;
            case 2 -> sys == null ? 0 : sys.told.size();
            case 3 -> sys == null ? 0 : sys.acts.size();
            case 4 -> sys == null ? 0 : 1 + sys.told.size();
            case 5 -> tape.length();
            case 6 -> rowsThere;
            default -> -1;
        };
    }

    int image(int k) {
        if (!in(k, 0, 2)) {
            return -2;
        }
        images[k] = sys;
        imaged[k] = true;
        return 0;
    }

    int back(int k) {
        if (!in(k, 0, 2)) {
            return -2;
        }
        if (!imaged[k]) {
            return -6;
        }
        sys = images[k];
        return 0;
    }

    int row(int slot, int width, int n) {
        if (!in(slot, 0, 3) || !in(width, 0, 3) || n > 60) {
            return -2;
        }
        if (n < 0) {
            return -3;
        }
        rows[slot] = new long[n];
        widths[slot] = width;
        return 0;
    }

    int write(int slot, int i, long v) {
        if (!in(slot, 0, 3)) {
            return -2;
        }
        if (rows[slot] == null) {
            return -6;
        }
        if (!in(i, 0, rows[slot].length - 1)) {
            return -7;
        }
        int unused = 64 - (8 << widths[slot]);
        rows[slot][i] = v << unused >> unused;
        return 0;
    }

    int paste(int slot, int i, int to, int k, int n) {
        if (!in(slot, 0, 3) || !in(to, 0, 3)) {
            return -2;
        }
        if (rows[slot] == null || rows[to] == null) {
            return -6;
        }
        if (widths[slot] != widths[to]) {
            return -8;
        }
        if (i < 0 || k < 0 || n < 0 || (long) i + n > rows[slot].length || (long) k + n > rows[to].length) {
            return -7;
        }
        long[] were = rows[slot].clone();
        for (int j = 0; j < n; j++) {
            rows[to][k + j] = were[i + j];
        }
        return 0;
    }
}
