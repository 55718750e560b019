import java.io.IOException;
import java.nio.file.Files;
import java.nio.file.Path;
import java.util.LinkedHashMap;
import java.util.Map;
import java.util.function.IntToLongFunction;
import java.util.function.ToLongFunction;
import java.util.regex.Matcher;
import java.util.regex.Pattern;

/**
 * What the tests of the document's sentences share. Each test begins by says(), with where the sentence stands
 * and its words; the words must stand there, and at the end no words of a promise or term may be left over.
 */
final class Edges {
    static final String BARE = "system law 0 odds 0;";
    private static final Path DOCUMENT = Path.of("../shared/DOC.md");

    private static final Map<String, String> TEXTS = new LinkedHashMap<>();
    private static final Map<String, boolean[]> COVERED = new LinkedHashMap<>();
    private static String test = "";
    private static int tests;
    private static int answers;

    private Edges() {}

    // ---- the document

    /** Takes the document apart: "II" for a term, "7" for a promise, "0" for what stands ahead of them. */
    static void open() throws IOException {
        String all = Files.readString(DOCUMENT);
        keep("0", all.substring(all.indexOf("An object is used"), all.indexOf("## The public face")));
        String terms = all.substring(all.indexOf("## Terms"), all.indexOf("## Promise 1:"));
        Matcher term = Pattern.compile("(?ms)^(I|II|III|IV|V|VI|VII|VIII|IX)\\. (.*?)(?=^[IVX]+\\. |\\z)").matcher(terms);
        while (term.find()) {
            keep(term.group(1), term.group(2).replace("```text", "").replace("```", ""));
        }
        Matcher promise = Pattern.compile("(?ms)^## Promise (\\d+): \\w+.*?\n\n`[^`]*`: (.*?)(?=^## |\\z)").matcher(all);
        while (promise.find()) {
            keep(promise.group(1), promise.group(2));
        }
        Check.due("terms and promises of the document", TEXTS.size(), 1 + 9 + 66);
    }

    private static void keep(String where, String text) {
        TEXTS.put(where, text);
        COVERED.put(where, new boolean[text.length()]);
    }

    /** No test behind: the last one has had answers, and no words are left without a test. */
    static void close() {
        finish();
        for (String where : TEXTS.keySet()) {
            Check.due("words of " + where + " without a test: " + leftOver(where), leftOver(where).length(), 0);
        }
        System.out.println(tests + " sentences tested");
        Check.close();
    }

    private static String leftOver(String where) {
        StringBuilder left = new StringBuilder();
        String text = TEXTS.get(where);
        boolean[] covered = COVERED.get(where);
        for (int i = 0; i < text.length(); i++) {
            if (!covered[i] && Character.isLetterOrDigit(text.charAt(i))) {
                left.append(text.charAt(i));
            }
        }
        return left.toString();
    }

    // ---- tests

    /** Begins the test of a sentence of a promise or term. */
    static void says(String where, String sentence) {
        finish();
        tests++;
        answers = 0;
        test = (where.matches("\\d+") ? "Promise " : "Term ") + where + ", \"" + sentence + "\"";
        String text = TEXTS.getOrDefault(where, "");
        int at = text.indexOf(sentence);
        Check.due(test + " stands there", at >= 0 ? 1 : 0, 1);
        for (int i = Math.max(at, 0); at >= 0 && i < at + sentence.length(); i++) {
            COVERED.get(where)[i] = true;
        }
    }

    static void says(int promise, String sentence) {
        says(String.valueOf(promise), sentence);
    }

    private static void finish() {
        if (tests > 0) {
            Check.due(test + " looks at an answer", answers > 0 ? 1 : 0, 1);
        }
    }

    static void due(String call, long got, long want) {
        answers++;
        Check.due(test + ": " + call, got, want);
    }

    static void yes(String what, boolean holds) {
        due(what, holds ? 1 : 0, 1);
    }

    /** Several answers at once, one behind the other. */
    static void dues(String call, int[] got, int... want) {
        due(call + ", how many", got.length, want.length);
        for (int i = 0; i < Math.min(got.length, want.length); i++) {
            due(call + ", " + i, got[i], want[i]);
        }
    }

    /** A number is taken from least to most, and answered by what is wrong one below, one above, far off. */
    static void bounds(String call, IntToLongFunction f, int least, int most, long wrong) {
        due(call + " of " + (least - 1), f.applyAsLong(least - 1), wrong);
        due(call + " of " + (most + 1), f.applyAsLong(most + 1), wrong);
        due(call + " of the least int", f.applyAsLong(Integer.MIN_VALUE), wrong);
        due(call + " of the largest int", f.applyAsLong(Integer.MAX_VALUE), wrong);
        yes(call + " takes " + least, f.applyAsLong(least) != wrong);
        yes(call + " takes " + most, f.applyAsLong(most) != wrong);
    }

    static void processes(String call, IntToLongFunction f) {
        bounds(call + " process", f, 1, 15, -2);
    }

    static void ticks(String call, IntToLongFunction f, int last) {
        bounds(call + " tick", f, 0, last, -2);
    }

    /** What is answered while there is no SYSTEM: none yet, none any more, none by an image. */
    static void without(String call, ToLongFunction<FrozenTrees> f, long wrong) {
        FrozenTrees x = new FrozenTrees();
        due(call + " of a new object", f.applyAsLong(x), wrong);
        x.image(0);
        told(x, BARE + "fork 1 2;");
        x.system();
        due(call + " behind an empty TAPE", f.applyAsLong(x), wrong);
        told(x, BARE + "fork 1 2;");
        x.back(0);
        due(call + " behind an image of none", f.applyAsLong(x), wrong);
    }

    // ---- objects

    static FrozenTrees of(String text) {
        return Check.of(text);
    }

    /** A SYSTEM told to an object: what system() answers. */
    static int told(FrozenTrees x, String text) {
        Check.feed(x, text);
        return x.system();
    }

    static void fault(String text, int fault, int place) {
        FrozenTrees x = new FrozenTrees();
        due("system() of " + text, told(x, text), -4);
        due("fault(0) of " + text, x.fault(0), fault);
        due("fault(1) of " + text, x.fault(1), place);
    }

    static void good(String text, int lines) {
        FrozenTrees x = new FrozenTrees();
        due("system() of " + text, told(x, text), lines);
        due("fault(0) of " + text, x.fault(0), 0);
    }

    /** A row of a SLOT with these numbers. */
    static void row(FrozenTrees x, int slot, int width, long... numbers) {
        x.row(slot, width, numbers.length);
        for (int i = 0; i < numbers.length; i++) {
            x.write(slot, i, numbers[i]);
        }
    }

    /** The numbers of the EVENTS' refusals, one behind the other. */
    static void refused(String text, int... why) {
        FrozenTrees x = of(text);
        due("EVENTS of " + text, x.count(2), why.length);
        for (int e = 0; e < why.length; e++) {
            due("refused(" + e + ") of " + text, x.refused(e), why[e]);
        }
    }

    /** From whom 1, 2, .. hang at the last TICK. */
    static void hung(String text, int... parents) {
        FrozenTrees x = of(text);
        for (int p = 1; p <= parents.length; p++) {
            due("parent(" + p + ") of " + text, x.parent(p, x.count(2)), parents[p - 1]);
        }
    }

    /** Fifteen PROCESSES, each forked by the one ahead of it: 14 EVENTS. */
    static String chain(String head) {
        StringBuilder b = new StringBuilder(head);
        for (int p = 1; p < 15; p++) {
            b.append("fork ").append(p).append(' ').append(p + 1).append(';');
        }
        return b.toString();
    }
}
