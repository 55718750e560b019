/** Promises 19 to 27: HANDLES, OBJECTS, what is queued in PIPES, LABELS. */
final class HandleEdges {
    /** FILE 0, PIPE 1 2 of 1; 15 holds them, too, writes, closes its WRITE END; 1 closes all but the READ END: 9 EVENTS. */
    private static final String HELD = Edges.BARE + "open 1 0;pipe 1 6 7;fork 1 15;write 15 7 10;close 15 7;close 1 0;copy 1 7 1;"
        + "close 1 7;close 1 1;";

    private HandleEdges() {}

    static void test() {
        object();
        handles();
        holds();
        kind();
        objects();
        queued();
        queuedNone();
        bytes();
        label();
        sharers();
    }

    /** All fifteen, 55 PIPES of 2 .. 15, and one write into the last one by the last of 70 EVENTS. */
    static FrozenTrees most() {
        StringBuilder forks = new StringBuilder(Edges.BARE);
        for (int c = 2; c <= 15; c++) {
            forks.append("fork 1 ").append(c).append(';');
        }
        for (int i = 0; i < 26; i++) {
            forks.append("pipe ").append(2 + i / 4).append(' ').append(2 * (i % 4)).append(' ').append(2 * (i % 4) + 1).append(';');
        }
        FrozenTrees x = Edges.of(forks.toString());
        for (int i = 26; i < 55; i++) {
            x.does(4, 2 + i / 4, 2 * (i % 4), 2 * (i % 4) + 1);
        }
        x.does(7, 15, 5, 1);
        return x;
    }

    private static void object() {
        Edges.says(19, "The OBJECT of a HANDLE of a PROCESS at a TICK.");
        FrozenTrees x = Edges.of(HELD);
        Edges.due("the first", x.object(1, 0, 1), 0);
        Edges.due("the last HANDLE", x.object(1, 7, 2), 2);
        Edges.due("the last PROCESS", x.object(15, 7, 3), 2);
        Edges.due("a copy", x.object(1, 1, 7), 2);
        Edges.due("at the last TICK", x.object(15, 6, 9), 1);
        Edges.says(19, "NONE: none;");
        Edges.due("not yet", x.object(1, 0, 0), FrozenTrees.NONE);
        Edges.due("closed", x.object(1, 7, 8), FrozenTrees.NONE);
        Edges.due("never", x.object(15, 1, 9), FrozenTrees.NONE);
        Edges.due("not alive yet", x.object(15, 0, 2), FrozenTrees.NONE);
        Edges.due("never alive", x.object(14, 0, 9), FrozenTrees.NONE);
        Edges.says(19, "-2: there are none such, no SYSTEM.");
        Edges.processes("object", p -> x.object(p, 0, 9));
        Edges.bounds("object handle", h -> x.object(15, h, 9), 0, 7, -2);
        Edges.ticks("object", t -> x.object(1, 0, t), 9);
        Edges.without("object(1, 0, 0)", y -> y.object(1, 0, 0), -2);
    }

    private static void handles() {
        Edges.says(20, "HANDLES that a PROCESS holds, as bits.");
        FrozenTrees x = Edges.of(HELD);
        Edges.due("none", x.handles(1, 0), 0);
        Edges.due("0, 6, 7", x.handles(1, 2), 1 + 64 + 128);
        Edges.due("of 15", x.handles(15, 9), 1 + 64);
        Edges.due("all eight", Edges.of(Edges.BARE + "pipe 1 0 1;pipe 1 2 3;pipe 1 4 5;pipe 1 6 7;").handles(1, 4), 255);
        Edges.due("not another one's", Edges.of(Edges.BARE + "pipe 1 0 7;fork 1 2;close 2 0;close 2 7;").handles(2, 4), 0);
        Edges.says(20, "-2 likewise (0, if it is not alive).");
        Edges.due("not alive yet", x.handles(15, 2), 0);
        Edges.due("not any more", Edges.of(Edges.BARE + "open 1 0;fork 1 2;exit 2;").handles(2, 3), 0);
        Edges.processes("handles", p -> x.handles(p, 9));
        Edges.ticks("handles", t -> x.handles(1, t), 9);
        Edges.without("handles(1, 0)", y -> y.handles(1, 0), -2);
    }

    private static void holds() {
        Edges.says(21, "How many HANDLES of all hold an OBJECT (0 .. 199; one not made by then: 0) at a TICK.");
        FrozenTrees x = Edges.of(HELD);
        Edges.due("not made by then", x.holds(0, 0), 0);
        Edges.due("one", x.holds(0, 1), 1);
        Edges.due("two", x.holds(2, 3), 2);
        Edges.due("a copy counts", x.holds(2, 7), 2);
        Edges.due("none any more", x.holds(2, 9), 0);
        Edges.due("the largest number", x.holds(199, 9), 0);
        String many = Edges.chain(Edges.BARE + "open 1 0;copy 1 0 1;copy 1 0 2;copy 1 0 3;copy 1 0 4;copy 1 0 5;copy 1 0 6;copy 1 0 7;");
        Edges.due("all HANDLES of all", Edges.of(many).holds(0, 22), 120);
        Edges.says(21, "-2: there are none such, no SYSTEM.");
        Edges.bounds("holds object", o -> x.holds(o, 9), 0, 199, -2);
        Edges.ticks("holds", t -> x.holds(0, t), 9);
        Edges.without("holds(0, 0)", y -> y.holds(0, 0), -2);
    }

    private static void kind() {
        Edges.says(22, "What an OBJECT is: 0 a FILE, 1 a READ END, 2 a WRITE END.");
        FrozenTrees x = Edges.of(HELD);
        Edges.due("a FILE", x.kind(0, 1), 0);
        Edges.due("a READ END", x.kind(1, 2), 1);
        Edges.due("a WRITE END", x.kind(2, 2), 2);
        Edges.due("one that is gone", x.kind(2, 9), 2);
        Edges.says(22, "NONE: it is not made by then; -2 likewise.");
        Edges.due("not by then", x.kind(0, 0), FrozenTrees.NONE);
        Edges.due("not its READ END", x.kind(1, 1), FrozenTrees.NONE);
        Edges.due("never", x.kind(3, 9), FrozenTrees.NONE);
        Edges.due("the largest number", x.kind(199, 9), FrozenTrees.NONE);
        // made in an earlier SYSTEM, not in this one
        Edges.told(x, Edges.BARE + "touch 1 0;");
        Edges.due("another SYSTEM's", x.kind(0, 1), FrozenTrees.NONE);
        Edges.bounds("kind object", o -> x.kind(o, 1), 0, 199, -2);
        Edges.ticks("kind", t -> x.kind(0, t), 1);
        Edges.without("kind(0, 0)", y -> y.kind(0, 0), -2);
    }

    private static void objects() {
        Edges.says(23, "How many OBJECTS are held at a TICK.");
        FrozenTrees x = Edges.of(HELD);
        int[] want = {0, 1, 3, 3, 3, 3, 3, 3, 3, 2};
        for (int t = 0; t <= 9; t++) {
            Edges.due("at " + t, x.objects(t), want[t]);
        }
        Edges.due("as many as there can be", most().objects(70), 110);
        Edges.says(23, "-2: there is none such, no SYSTEM.");
        Edges.ticks("objects", x::objects, 9);
        Edges.without("objects(0)", y -> y.objects(0), -2);
    }

    private static void queued() {
        Edges.says(24, "Bytes in the PIPE of an END.");
        FrozenTrees x = Edges.of(HELD);
        Edges.due("none at first", x.queued(1, 2), 0);
        Edges.due("by its READ END", x.queued(1, 4), 10);
        Edges.due("by its WRITE END", x.queued(2, 4), 10);
        Edges.due("by its WRITE END, that is gone", x.queued(2, 9), 10);
        FrozenTrees y = Edges.of(Edges.BARE + "pipe 1 0 1;write 1 1 30;write 1 1 30;close 1 0;");
        Edges.due("60", y.queued(0, 3), 60);
        Edges.due("by its READ END, that is gone", y.queued(0, 4), 60);
        Edges.due("nobody can read them", y.queued(1, 4), 60);
    }

    private static void queuedNone() {
        Edges.says(24, "NONE: it is not made by then, a FILE, gone with its other END;");
        FrozenTrees x = Edges.of(HELD);
        Edges.due("not made by then", x.queued(1, 1), FrozenTrees.NONE);
        Edges.due("never made", x.queued(3, 9), FrozenTrees.NONE);
        Edges.due("the largest number", x.queued(199, 9), FrozenTrees.NONE);
        Edges.due("a FILE", x.queued(0, 1), FrozenTrees.NONE);
        x.does(6, 1, 6, 0);
        Edges.due("15's READ END is held", x.queued(1, 10), 10);
        x.does(2, 15, 0, 0);
        Edges.due("gone, the READ END", x.queued(1, 11), FrozenTrees.NONE);
        Edges.due("gone, the WRITE END", x.queued(2, 11), FrozenTrees.NONE);
        Edges.due("a FILE, gone", x.queued(0, 11), FrozenTrees.NONE);
        // a FILE right ahead of a PIPE and right behind one
        FrozenTrees y = Edges.of(Edges.BARE + "open 1 0;pipe 1 1 2;open 1 3;write 1 2 4;");
        Edges.due("a FILE ahead", y.queued(0, 4), FrozenTrees.NONE);
        Edges.due("a FILE behind", y.queued(3, 4), FrozenTrees.NONE);
        Edges.says(24, "-2: there are none such, no SYSTEM.");
        Edges.bounds("queued object", o -> x.queued(o, 9), 0, 199, -2);
        Edges.ticks("queued", t -> x.queued(1, t), 11);
        Edges.without("queued(0, 0)", z -> z.queued(0, 0), -2);
    }

    private static void bytes() {
        Edges.says(25, "Bytes in all PIPES at a TICK (gone ones not).");
        FrozenTrees x = Edges.of(Edges.BARE + "pipe 1 0 1;pipe 1 2 3;write 1 1 30;write 1 3 7;close 1 0;close 1 1;close 1 3;close 1 2;");
        int[] want = {0, 0, 0, 30, 37, 37, 7, 7, 0};
        for (int t = 0; t <= 8; t++) {
            Edges.due("at " + t, x.bytes(t), want[t]);
        }
        FrozenTrees y = Edges.of(Edges.BARE + "pipe 1 0 1;pipe 1 2 3;pipe 1 4 5;pipe 1 6 7;write 1 1 30;write 1 3 30;write 1 5 30;"
            + "write 1 7 30;write 1 1 30;write 1 3 30;write 1 5 30;write 1 7 30;");
        Edges.due("four full ones", y.bytes(12), 240);
        Edges.says(25, "-2: there is none such, no SYSTEM.");
        Edges.ticks("bytes", x::bytes, 8);
        Edges.without("bytes(0)", z -> z.bytes(0), -2);
    }

    private static void label() {
        Edges.says(26, "LABEL (III) of a HANDLE of a PROCESS.");
        FrozenTrees x = Edges.of(HELD);
        Edges.due("the first", x.label(1, 0, 2), 0);
        Edges.due("the last HANDLE", x.label(1, 7, 2), 2);
        Edges.due("of 15", x.label(15, 7, 3), 2);
        Edges.due("its own HANDLE of 15, behind 1's", x.label(15, 0, 6), 2);
        Edges.due("1's READ END, first then", x.label(1, 6, 6), 0);
        Edges.due("at the last TICK", x.label(15, 0, 9), 1);
        Edges.due("the last of as many as there can be", most().label(15, 5, 70), 109);
        Edges.says(26, "NONE: it holds none;");
        Edges.due("not yet", x.label(1, 0, 0), FrozenTrees.NONE);
        Edges.due("closed", x.label(1, 0, 6), FrozenTrees.NONE);
        Edges.due("not alive", x.label(14, 0, 9), FrozenTrees.NONE);
        Edges.says(26, "-2: there are none such, no SYSTEM.");
        Edges.processes("label", p -> x.label(p, 0, 9));
        Edges.bounds("label handle", h -> x.label(15, h, 9), 0, 7, -2);
        Edges.ticks("label", t -> x.label(1, 0, t), 9);
        Edges.without("label(1, 0, 0)", y -> y.label(1, 0, 0), -2);
    }

    private static void sharers() {
        Edges.says(27, "PROCESSES that hold the OBJECT of a HANDLE of a PROCESS, as bits.");
        FrozenTrees x = Edges.of(HELD);
        Edges.due("1 alone", x.sharers(1, 7, 2), 1);
        Edges.due("1 and 15", x.sharers(1, 7, 3), 1 + 16384);
        Edges.due("asked of 15", x.sharers(15, 6, 9), 1 + 16384);
        Edges.due("15 alone", x.sharers(15, 0, 9), 16384);
        Edges.due("by another HANDLE", x.sharers(1, 1, 7), 1);
        Edges.due("all fifteen", Edges.of(Edges.chain(Edges.BARE + "open 1 7;")).sharers(15, 7, 15), 32767);
        Edges.says(27, "0: it holds none; -2 likewise.");
        Edges.due("not yet", x.sharers(1, 0, 0), 0);
        Edges.due("closed", x.sharers(1, 0, 6), 0);
        Edges.due("not alive", x.sharers(14, 0, 9), 0);
        Edges.processes("sharers", p -> x.sharers(p, 0, 9));
        Edges.bounds("sharers handle", h -> x.sharers(15, h, 9), 0, 7, -2);
        Edges.ticks("sharers", t -> x.sharers(1, 0, t), 9);
        Edges.without("sharers(1, 0, 0)", y -> y.sharers(1, 0, 0), -2);
    }
}
