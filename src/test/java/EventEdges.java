/** Term II: TICK 0, why EVENTS are REFUSED, what they do, the LAWS. */
final class EventEdges {
    /** A PIPE of 1 with READ END 0 and WRITE END 1, 60 bytes in it: EVENTS 0 .. 2. */
    private static final String FULL = Edges.BARE + "pipe 1 0 1;write 1 1 30;write 1 1 30;";

    private EventEdges() {}

    static void test() {
        first();
        nothing();
        firstReason();
        reasonOne();
        reasonTwo();
        reasonThree();
        reasonFour();
        reasonFive();
        reasonSix();
        fork();
        lead();
        exit();
        lawsZeroAndOne();
        lawTwo();
        lawThree();
        openAndPipe();
        copyAndClose();
        writeAndRead();
        touch();
        numbers();
        gone();
    }

    private static void first() {
        Edges.says("II", "At TICK 0 PROCESS 1 alone is alive: it hangs from 0, is of session 1 (it leads it), has no HANDLES, "
            + "none of its PAGES (0 .. 7) is DIRTY.");
        FrozenTrees x = Edges.of(Edges.BARE + "touch 1 0;touch 1 7;");
        Edges.due("alive", x.alive(0), 1);
        Edges.due("parent", x.parent(1, 0), 0);
        Edges.due("session", x.session(1, 0), 1);
        Edges.due("it leads", Edges.of(Edges.BARE + "lead 1;").refused(0), 2);
        Edges.due("handles", x.handles(1, 0), 0);
        Edges.due("dirty", x.dirty(1, 0, 0), 0);
        Edges.due("PAGES 0 and 7 then", x.dirty(1, 0, 2), 129);
        Edges.due("PAGE 8 is none", x.does(9, 1, 8, 0), -2);
        Edges.due("PAGE -1 is none", x.does(9, 1, -1, 0), -2);
    }

    /** An EVENT behind a text is REFUSED, and all is as ahead of it. */
    private static void idle(String text, String event, int why) {
        FrozenTrees x = Edges.of(text + event);
        int last = x.count(2);
        Edges.due(event + " behind " + text, x.refused(last - 1), why);
        Edges.due("SHAPE behind " + event, x.alike(last - 1, last), 1);
        Edges.due("refusals by " + event, x.refusals(last) - x.refusals(last - 1), 1);
        for (int p = 1; p <= 15; p++) {
            Edges.due("dirty of " + p + " by " + event, x.dirty(p, last - 1, last), 0);
        }
        x.does(3, 1, 7, 0);
        int made = 0;
        while (x.kind(made, last - 1) >= 0) {
            made++;
        }
        Edges.due("the next OBJECT's number behind " + event, x.object(1, 7, last + 1), made);
    }

    private static void nothing() {
        Edges.says("II", "EVENTS in order, each does nothing, if it is REFUSED,");
        String two = Edges.BARE + "fork 1 2;exit 2;";
        String[] byTwo = {"fork 2 3;", "lead 2;", "exit 2;", "open 2 0;", "pipe 2 0 1;", "copy 2 0 1;", "close 2 0;",
            "write 2 0 1;", "read 2 0 1;", "touch 2 0;"};
        for (String event : byTwo) {
            idle(two, event, 1);
        }
        idle(two, "fork 1 2;", 2);
        idle(two, "lead 1;", 2);
        idle(two, "exit 1;", 2);
        idle(FULL, "open 1 1;", 3);
        idle(FULL, "pipe 1 2 1;", 3);
        idle(FULL, "pipe 1 1 2;", 3);
        idle(FULL, "pipe 1 2 2;", 3);
        idle(FULL, "copy 1 0 1;", 3);
        idle(FULL, "copy 1 2 3;", 3);
        idle(FULL, "close 1 2;", 3);
        idle(FULL, "write 1 0 1;", 4);
        idle(FULL, "read 1 1 1;", 4);
        idle(FULL + "close 1 0;", "write 1 1 1;", 5);
        idle(FULL + "read 1 0 30;read 1 0 29;", "read 1 0 2;", 5);
        idle(FULL, "write 1 1 1;", 6);
    }

    private static void firstReason() {
        Edges.says("II", "by the first of these:");
        // 1 ahead of 2, 3: 2 is not alive, led, was alive, holds nothing
        Edges.refused(Edges.BARE + "fork 1 2;lead 2;exit 2;fork 2 1;lead 2;exit 2;open 2 0;pipe 2 0 0;close 2 0;write 2 0 1;",
            0, 0, 0, 1, 1, 1, 1, 1, 1, 1);
        // 3 ahead of 4: nothing is held; 4 ahead of 5, 6: a READ END written to, a WRITE END read from
        Edges.refused(FULL + "write 1 5 30;read 1 5 30;write 1 0 30;close 1 0;read 1 1 30;", 0, 0, 0, 3, 3, 4, 0, 4);
        // 5 ahead of 6: full, and nobody has the READ END
        Edges.refused(FULL + "close 1 0;write 1 1 30;", 0, 0, 0, 0, 5);
    }

    private static void reasonOne() {
        Edges.says("II", "1 P is not alive.");
        Edges.refused(Edges.BARE + "touch 2 0;fork 1 2;touch 2 0;exit 2;touch 2 0;touch 15 0;", 1, 0, 0, 0, 1, 1);
        Edges.refused(Edges.BARE + "fork 15 14;fork 1 15;fork 15 14;touch 14 0;", 1, 0, 0, 0);
    }

    private static void reasonTwo() {
        Edges.says("II", "2 fork: C was alive ever;");
        Edges.refused(Edges.BARE + "fork 1 1;fork 1 2;fork 1 2;fork 2 2;fork 2 1;exit 2;fork 1 2;", 2, 0, 2, 2, 2, 0, 2);
        Edges.refused(Edges.BARE + "fork 3 2;fork 1 2;fork 1 15;exit 15;fork 2 15;", 1, 0, 0, 0, 2);
        Edges.says("II", "lead: P leads (its session is its number);");
        Edges.refused(Edges.BARE + "lead 1;fork 1 2;lead 2;lead 2;fork 2 3;lead 3;lead 3;", 2, 0, 0, 2, 0, 0, 2);
        Edges.says("II", "exit: P is 1.");
        Edges.refused(Edges.BARE + "exit 1;fork 1 2;exit 2;exit 1;", 2, 0, 0, 2);
        Edges.due("1 is alive to the end", Edges.of(Edges.BARE + "exit 1;").alive(1), 1);
    }

    private static void reasonThree() {
        Edges.says("II", "3 open, pipe: H, or G, is held by P, or both are one;");
        Edges.refused(Edges.BARE + "open 1 0;open 1 0;open 1 7;open 1 7;", 0, 3, 0, 3);
        Edges.refused(Edges.BARE + "open 1 0;pipe 1 0 1;pipe 1 1 0;pipe 1 1 2;pipe 1 0 0;", 0, 3, 3, 0, 3);
        Edges.refused(Edges.BARE + "pipe 1 3 3;pipe 1 0 0;pipe 1 7 7;pipe 1 7 0;", 3, 3, 3, 0);
        // another one's HANDLE of the same number is not held by P
        Edges.refused(Edges.BARE + "fork 1 2;open 2 0;open 1 0;pipe 2 1 2;pipe 1 2 1;", 0, 0, 0, 0, 0);
        Edges.says("II", "copy: G is held by P;");
        Edges.refused(Edges.BARE + "open 1 0;open 1 1;copy 1 0 1;copy 1 0 0;copy 1 0 2;", 0, 0, 3, 3, 0);
        Edges.says("II", "copy, close, write, read: H is not held by P.");
        Edges.refused(Edges.BARE + "copy 1 0 1;close 1 0;write 1 0 1;read 1 0 1;copy 1 0 0;", 3, 3, 3, 3, 3);
        Edges.refused(Edges.BARE + "open 1 0;close 1 0;close 1 0;copy 1 0 1;", 0, 0, 3, 3);
        Edges.refused(Edges.BARE + "fork 1 2;pipe 2 0 1;copy 1 0 2;close 1 0;write 1 1 1;read 1 0 1;", 0, 0, 3, 3, 3, 3);
    }

    private static void reasonFour() {
        Edges.says("II", "4 write: H holds no WRITE END (a FILE is none);");
        Edges.refused(Edges.BARE + "open 1 5;write 1 5 1;pipe 1 0 1;write 1 0 1;write 1 1 1;", 0, 4, 0, 4, 0);
        Edges.says("II", "read: no READ END.");
        Edges.refused(Edges.BARE + "open 1 5;read 1 5 1;pipe 1 0 1;write 1 1 1;read 1 1 1;read 1 0 1;", 0, 4, 0, 0, 4, 0);
        // a FILE that is the newest OBJECT, and one behind a PIPE's ENDS
        Edges.refused(Edges.BARE + "pipe 1 0 1;open 1 2;read 1 2 1;write 1 2 1;open 1 3;read 1 2 1;", 0, 0, 4, 4, 0, 4);
    }

    private static void reasonFive() {
        Edges.says("II", "5 write: no HANDLE of any has its READ END;");
        Edges.refused(Edges.BARE + "pipe 1 0 1;close 1 0;write 1 1 1;", 0, 0, 5);
        // one HANDLE of another PROCESS is enough, a copy too; another PIPE's READ END is not
        Edges.refused(Edges.BARE + "pipe 1 0 1;fork 1 15;close 1 0;write 1 1 1;exit 15;write 1 1 1;", 0, 0, 0, 0, 0, 5);
        Edges.refused(Edges.BARE + "pipe 1 0 1;copy 1 0 7;close 1 0;write 1 1 1;close 1 7;write 1 1 1;", 0, 0, 0, 0, 0, 5);
        Edges.refused(Edges.BARE + "pipe 1 0 1;pipe 1 2 3;close 1 0;write 1 1 1;write 1 3 1;", 0, 0, 0, 5, 0);
        Edges.says("II", "read: there are fewer bytes than N, and a HANDLE of some one has its WRITE END.");
        Edges.refused(Edges.BARE + "pipe 1 0 1;read 1 0 1;write 1 1 5;read 1 0 6;read 1 0 5;read 1 0 1;", 0, 5, 0, 5, 0, 5);
        Edges.refused(Edges.BARE + "pipe 1 0 1;fork 1 15;close 1 1;read 1 0 1;exit 15;read 1 0 1;", 0, 0, 0, 5, 0, 0);
        Edges.refused(Edges.BARE + "pipe 1 0 1;copy 1 1 7;close 1 1;read 1 0 1;close 1 7;read 1 0 1;", 0, 0, 0, 5, 0, 0);
        Edges.refused(Edges.BARE + "pipe 1 0 1;pipe 1 2 3;close 1 1;read 1 0 1;read 1 2 1;", 0, 0, 0, 0, 5);
    }

    private static void reasonSix() {
        Edges.says("II", "6 write: there would be more than 60 bytes.");
        Edges.refused(FULL + "write 1 1 1;read 1 0 1;write 1 1 2;write 1 1 1;write 1 1 30;", 0, 0, 0, 6, 0, 6, 0, 6);
        Edges.due("60 bytes", Edges.of(FULL).bytes(3), 60);
        // 60 of each PIPE, not of all
        Edges.refused(FULL + "pipe 1 2 3;write 1 3 30;write 1 3 30;write 1 3 1;", 0, 0, 0, 0, 0, 0, 6);
    }

    private static void fork() {
        Edges.says("II", "fork: C is alive, hangs from P, is of P's session, holds the same OBJECTS by the same HANDLES; all its "
            + "PAGES are DIRTY.");
        FrozenTrees x = Edges.of(Edges.BARE + "fork 1 2;lead 2;open 2 0;pipe 2 6 7;fork 2 15;open 2 1;close 2 0;");
        Edges.due("alive", x.alive(5), 1 + 2 + 16384);
        Edges.due("parent", x.parent(15, 5), 2);
        Edges.due("session", x.session(15, 5), 2);
        Edges.due("handles", x.handles(15, 5), 1 + 64 + 128);
        Edges.due("object 0", x.object(15, 0, 5), 0);
        Edges.due("object 7", x.object(15, 7, 5), 2);
        Edges.due("dirty", x.dirty(15, 4, 5), 255);
        Edges.due("dirty before", x.dirty(15, 0, 4), 0);
        Edges.due("P's PAGES are not", x.dirty(2, 4, 5), 0);
        Edges.due("what P opens then is its own", x.object(15, 1, 7), -1);
        Edges.due("what P closes then stays", x.object(15, 0, 7), 0);
        // what others hold is not C's: 2 is 1's neighbour by number, 6 is 5's
        FrozenTrees y = Edges.of(Edges.BARE + "fork 1 2;open 2 0;open 2 7;fork 1 5;");
        Edges.due("nothing of 2's", y.handles(5, 4), 0);
        Edges.due("no one else's", y.object(6, 0, 4), -1);
        Edges.due("held once", y.holds(0, 4), 1);
    }

    private static void lead() {
        Edges.says("II", "lead: P's session is P.");
        FrozenTrees x = Edges.of(Edges.BARE + "fork 1 2;fork 2 15;lead 2;lead 15;");
        Edges.due("session of 2", x.session(2, 3), 2);
        Edges.due("who hangs from it stays", x.session(15, 3), 1);
        Edges.due("session of 15", x.session(15, 4), 15);
        Edges.due("parent stays", x.parent(15, 4), 2);
    }

    private static void exit() {
        Edges.says("II", "exit: P is not alive, its HANDLES are closed;");
        FrozenTrees x = Edges.of(Edges.BARE + "fork 1 2;open 2 0;open 2 7;fork 2 3;exit 2;");
        Edges.due("alive", x.alive(5), 5);
        Edges.due("handles", x.handles(2, 5), 0);
        Edges.due("object 7", x.object(2, 7, 5), -1);
        Edges.due("held by 3 alone", x.holds(1, 5), 1);
        Edges.due("3 holds on", x.handles(3, 5), 129);
        FrozenTrees z = Edges.of(Edges.BARE + "pipe 1 0 7;fork 1 3;fork 1 2;exit 2;");
        Edges.due("1, a number below, holds on", z.handles(1, 4), 129);
        Edges.due("3, a number above, holds on", z.handles(3, 4), 129);
        Edges.says("II", "those that hang from it hang, one behind the other by numbers, by LAW,");
        Edges.hung("system law 0 odds 0;fork 1 2;exit 2;", 0, -1);
        Edges.hung("system law 3 odds 0;fork 1 2;fork 2 15;fork 2 9;fork 2 3;exit 2;", 0, -1, 1, -1, -1, -1, -1, -1, 3, -1, -1,
            -1, -1, -1, 3);
        FrozenTrees y = Edges.of("system law 0 odds 0;fork 1 3;fork 3 2;fork 2 4;exit 3;");
        Edges.due("who hangs over others stays", y.parent(4, 4), 2);
    }

    private static void lawsZeroAndOne() {
        String tree = " odds 0;fork 1 2;fork 2 3;fork 3 4;fork 4 5;exit 3;exit 2;";
        Edges.says("II", "0: from 1.");
        Edges.hung("system law 0" + tree, 0, -1, -1, 1, 4);
        Edges.says("II", "1: from the one from which P hung.");
        Edges.hung("system law 1" + tree.replace("exit 2;", ""), 0, 1, -1, 2, 4);
        Edges.hung("system law 1" + tree, 0, -1, -1, 1, 4);
    }

    private static void lawTwo() {
        Edges.says("II", "2: from the one that leads the session of the one that hung (has that number), if that is alive, not the "
            + "one that hung, and does not hang from it (over others or not, as it is by then), else from 1.");
        // the leader is far above, right above, gone, P itself, the one that hung itself, 1
        Edges.hung("system law 2 odds 0;fork 1 2;lead 2;fork 2 3;fork 3 4;fork 4 5;exit 4;", 0, 1, 2, -1, 2);
        Edges.hung("system law 2 odds 0;fork 1 2;lead 2;fork 2 3;fork 3 4;exit 3;", 0, 1, -1, 2);
        Edges.hung("system law 2 odds 0;fork 1 2;lead 2;fork 2 3;fork 3 4;exit 2;exit 3;", 0, -1, -1, 1);
        Edges.hung("system law 2 odds 0;fork 1 2;fork 2 3;lead 3;fork 3 4;exit 3;", 0, 1, -1, 1);
        Edges.hung("system law 2 odds 0;fork 1 2;fork 2 3;fork 3 4;lead 4;exit 3;", 0, 1, -1, 1);
        Edges.hung("system law 2 odds 0;fork 1 2;fork 2 3;fork 3 4;exit 3;", 0, 1, -1, 1);
        // each by its own session, whatever P's is; the leader need not be above
        Edges.hung("system law 2 odds 0;fork 1 15;lead 15;fork 15 2;fork 2 3;fork 2 4;lead 2;lead 4;fork 2 5;exit 2;",
            0, -1, 15, 1, 1);
        Edges.hung("system law 2 odds 0;fork 1 9;fork 9 2;lead 2;fork 2 4;fork 4 3;exit 9;exit 4;", 0, 1, 2, -1);
    }

    private static void lawThree() {
        Edges.says("II", "3: the least of them as by 1, the others from that least one (what hangs from these stays).");
        Edges.hung("system law 3 odds 0;fork 1 2;fork 2 3;fork 3 5;fork 3 4;fork 3 6;fork 5 7;fork 4 8;exit 3;",
            0, 1, -1, 2, 4, 4, 5, 4);
        Edges.hung("system law 3 odds 0;fork 1 2;fork 2 15;exit 2;", 0, -1, -1, -1, -1, -1, -1, -1, -1, -1, -1, -1, -1, -1, 1);
        Edges.hung("system law 3 odds 0;fork 1 2;fork 2 4;fork 2 3;exit 2;exit 3;", 0, -1, -1, 1);
    }

    private static void openAndPipe() {
        Edges.says("II", "open: H holds a new OBJECT, a FILE.");
        FrozenTrees x = Edges.of(Edges.BARE + "open 1 7;open 1 0;pipe 1 6 1;");
        Edges.due("object", x.object(1, 7, 1), 0);
        Edges.due("kind", x.kind(0, 1), 0);
        Edges.due("another one", x.object(1, 0, 2), 1);
        Edges.says("II", "pipe: H a new OBJECT, a READ END, G the next new one, the WRITE END of the same PIPE.");
        Edges.due("READ END", x.object(1, 6, 3), 2);
        Edges.due("WRITE END", x.object(1, 1, 3), 3);
        Edges.due("kind of the READ END", x.kind(2, 3), 1);
        Edges.due("kind of the WRITE END", x.kind(3, 3), 2);
        x.does(7, 1, 1, 7);
        Edges.due("of the same PIPE", x.queued(2, 4), 7);
    }

    private static void copyAndClose() {
        Edges.says("II", "copy: G holds the OBJECT of H.");
        FrozenTrees x = Edges.of(Edges.BARE + "open 1 0;open 1 1;copy 1 1 7;close 1 1;close 1 7;");
        Edges.due("G", x.object(1, 7, 3), 1);
        Edges.due("H holds on", x.object(1, 1, 3), 1);
        Edges.due("both", x.holds(1, 3), 2);
        Edges.says("II", "close: H holds none.");
        Edges.due("H", x.object(1, 1, 4), -1);
        Edges.due("another HANDLE holds on", x.object(1, 7, 4), 1);
        Edges.due("none does", x.holds(1, 5), 0);
        Edges.due("another OBJECT is held", x.holds(0, 5), 1);
    }

    private static void writeAndRead() {
        Edges.says("II", "write: N bytes come into the PIPE.");
        FrozenTrees x = Edges.of(Edges.BARE + "pipe 1 0 1;write 1 1 1;write 1 1 30;read 1 0 30;read 1 0 1;");
        Edges.due("1", x.queued(0, 2), 1);
        Edges.due("30 more", x.queued(0, 3), 31);
        Edges.says("II", "read: N come out;");
        Edges.due("30 out", x.queued(0, 4), 1);
        Edges.due("the last one", x.queued(0, 5), 0);
        Edges.says("II", "without a WRITE END that is held all, if fewer are there.");
        FrozenTrees y = Edges.of(Edges.BARE + "pipe 1 0 1;write 1 1 30;write 1 1 5;close 1 1;read 1 0 30;read 1 0 6;read 1 0 1;");
        Edges.due("enough are there", y.queued(0, 5), 5);
        Edges.due("all", y.queued(0, 6), 0);
        Edges.due("it is not REFUSED", y.refused(5), 0);
        Edges.due("none are there", y.refused(6), 0);
        Edges.due("none come out", y.queued(0, 7), 0);
    }

    private static void touch() {
        Edges.says("II", "touch: PAGE K of P is DIRTY.");
        FrozenTrees x = Edges.of(Edges.BARE + "fork 1 2;touch 2 0;touch 1 7;touch 2 7;touch 2 7;");
        Edges.due("PAGE 0", x.dirty(2, 1, 2), 1);
        Edges.due("PAGE 7", x.dirty(1, 0, 5), 128);
        Edges.due("both", x.dirty(2, 1, 4), 129);
        Edges.due("again", x.dirty(2, 4, 5), 128);
    }

    private static void numbers() {
        Edges.says("II", "OBJECTS are numbered from 0 as they are made (numbers are not used again);");
        FrozenTrees x = Edges.of(Edges.BARE + "open 1 0;close 1 0;open 1 0;pipe 1 1 2;close 1 1;close 1 2;fork 1 2;open 2 3;");
        Edges.due("first", x.object(1, 0, 1), 0);
        Edges.due("second", x.object(1, 0, 3), 1);
        Edges.due("READ END", x.object(1, 1, 4), 2);
        Edges.due("WRITE END", x.object(1, 2, 4), 3);
        Edges.due("of another PROCESS", x.object(2, 3, 8), 4);
        FrozenTrees y = Edges.of(Edges.BARE + "pipe 1 0 1;close 1 0;" + "close 1 1;pipe 1 0 1;close 1 0;".repeat(12));
        Edges.due("the 13th PIPE", y.kind(25, 38), 2);
        Edges.due("none behind it", y.kind(26, 38), -1);
    }

    private static void gone() {
        Edges.says("II", "one that no HANDLE holds is gone, bytes of a PIPE both of whose ENDS are gone, too.");
        FrozenTrees x = Edges.of(Edges.BARE + "open 1 5;pipe 1 0 1;write 1 1 9;close 1 0;close 1 1;close 1 5;");
        Edges.due("three", x.objects(3), 3);
        Edges.due("READ END gone", x.objects(4), 2);
        Edges.due("bytes stay", x.bytes(4), 9);
        Edges.due("both gone", x.objects(5), 1);
        Edges.due("bytes gone", x.bytes(5), 0);
        Edges.due("FILE gone", x.objects(6), 0);
        FrozenTrees y = Edges.of(Edges.BARE + "pipe 1 0 1;write 1 1 9;close 1 1;close 1 0;");
        Edges.due("WRITE END gone, bytes stay", y.bytes(3), 9);
        Edges.due("both gone, WRITE END first", y.bytes(4), 0);
    }
}
