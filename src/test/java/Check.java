import java.nio.charset.StandardCharsets;

/** What the tests share: texts fed to an object, and answers counted against what is due. */
final class Check {
    private static int looked;
    private static int wrong;

    private Check() {}

    static void due(String call, long got, long want) {
        looked++;
        if (got != want) {
            wrong++;
            if (wrong <= 40) {
                System.out.println(call + " answered " + got + ", due is " + want);
            }
        }
    }

    /** The four bytes of a text from a place on as a number, blanks behind its end. */
    static int word(byte[] text, int at) {
        int v = 0;
        for (int i = at; i < at + 4; i++) {
            v = v << 8 | (i < text.length ? text[i] & 255 : ' ');
        }
        return v;
    }

    static void feed(FrozenTrees x, String text) {
        byte[] b = text.getBytes(StandardCharsets.ISO_8859_1);
        int was = x.count(5);
        for (int i = 0; i < b.length; i += 20) {
            x.feed(word(b, i), word(b, i + 4), word(b, i + 8), word(b, i + 12), word(b, i + 16));
        }
        x.end(was + b.length);
    }

    /** A new object with a SYSTEM, which must be without a FAULT. */
    static FrozenTrees of(String text) {
        FrozenTrees x = new FrozenTrees();
        feed(x, text);
        if (x.system() < 0) {
            due("system() of " + text, -4, 0);
        }
        return x;
    }

    static void close() {
        System.out.println(looked + " answers looked at, " + wrong + " wrong");
        if (wrong != 0 || looked == 0) {
            System.exit(1);
        }
    }
}
