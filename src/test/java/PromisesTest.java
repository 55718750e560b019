/** Each promise by hand: ordinary inputs, the edges that the document names, wrong inputs. */
public final class PromisesTest {
    /** 1 forks 2, who leads; 3 and 4 hang below; 3 exits, so that 4 hangs from 1, of session 2. */
    private static final String HELPED = "system law 0 odds 5;fork 1 2;lead 2;fork 2 3;fork 3 4;exit 3;";
    private static final String HANDLES = "system law 1 odds 3;open 1 0;pipe 1 1 2;fork 1 2;write 2 2 10;"
        + "close 1 2;exit 2;read 1 1 30;";
    private static final String PAGES = "system law 0 odds 0;touch 1 0;fork 1 2;touch 2 3;touch 1 1;touch 9 1;"
        + "exit 2;touch 1 0;";
    private static final String BARE = "system law 0 odds 0;";

    private PromisesTest() {}

    private static void due(String call, long got, long want) {
        Check.due(call, got, want);
    }

    private static FrozenTrees of(String text) {
        return Check.of(text);
    }

    public static void main(String[] args) {
        newObject();
        tape();
        system();
        faults();
        events();
        refusals();
        processes();
        laws();
        bornAndDied();
        handles();
        pipes();
        labels();
        shapes();
        plan();
        planByFork();
        pages();
        leftOut();
        seen();
        seenWrong();
        otherLaws();
        shares();
        game();
        chance();
        acts();
        actBounds();
        drawn();
        count();
        images();
        rows();
        paste();
        fifteen();
        seventy();
        runsForgotten();
        shapesClosely();
        Check.close();
    }

    private static void newObject() {
        FrozenTrees x = new FrozenTrees();
        due("new fault(0)", x.fault(0), 0);
        due("new fault(1)", x.fault(1), -1);
        due("new fault(2)", x.fault(2), -1);
        due("new event", x.event(0, 0), -2);
        due("new refused", x.refused(0), -2);
        int[] ticks = {x.refusals(0), x.alive(0), x.parent(1, 0), x.session(1, 0), x.kids(1, 0), x.under(1, 0),
            x.depth(1, 0), x.members(1, 0), x.sessions(0), x.born(1), x.died(1), x.object(1, 0, 0),
            x.handles(1, 0), x.holds(0, 0), x.kind(0, 0), x.objects(0), x.queued(0, 0), x.bytes(0),
            x.label(1, 0, 0), x.sharers(1, 0, 0), x.alike(0, 0), x.same(0), x.shapes(), x.usual(), x.how(1, 0),
            x.lost(0), x.steps(0), x.raised(0, 0), x.helpers(0), x.safe(), x.dirty(1, 0, 0),
            x.round(0, 1, 1, 0), x.copied(0, 1, 1), x.pace(0, 1), x.spare(), x.root(), x.may(0), x.which(0),
            x.plain(0), x.laws(0), x.by(0), x.law(), x.worth(0), x.rests(2, 3), x.gets(2, 3, 0, 0),
            (int) x.chance(1, 0, 0), (int) x.mean(0, 0), x.does(1, 1, 0, 0), x.undo(), x.anew(), x.drawn(0, 0),
            x.luck(0, 1, 1)};
        for (int i = 0; i < ticks.length; i++) {
            due("new call " + i, ticks[i], -2);
        }
        due("new share", x.share(2, 0), -1000);
        for (int what = 0; what < 7; what++) {
            due("new count " + what, x.count(what), 0);
        }
        due("new back", x.back(0), -6);
        due("new write", x.write(0, 0, 0), -6);
    }

    private static void tape() {
        FrozenTrees x = new FrozenTrees();
        due("end(0) of none", x.end(0), 0);
        due("end(1) of none", x.end(1), -1);
        for (int i = 1; i <= 45; i++) {
            due("feed " + i, x.feed(0x20202020, 0x20202020, 0x0A0A0A0A, 0x20202020, 0x20202020), 20 * i);
        }
        due("feed 46", x.feed(0, 0, 0, 0, 0), -1);
        due("full count", x.count(5), 900);
        due("end(901)", x.end(901), -1);
        due("end(-1)", x.end(-1), -1);
        due("end(900)", x.end(900), 900);
        due("end(881)", x.end(881), 881);
        due("feed at 881", x.feed(0, 0, 0, 0, 0), -1);
        due("count at 881", x.count(5), 881);
        due("end(880)", x.end(880), 880);
        due("feed at 880", x.feed(0x20202020, 0x20202020, 0x20202020, 0x20202020, 0x202020FF), 900);
        due("a byte above 127", x.system(), -4);
        due("it is no TOKEN", x.fault(0), 1);
        due("its place", x.fault(1), 899);
        // s y s t | e m _ l | a w _ 3 | _ o d d | s _ 7 ;
        due("feed by hand", x.feed(0x73797374, 0x656D206C, 0x61772033, 0x206F6464, 0x7320373B), 20);
        due("one line", x.system(), 1);
        due("law 3", x.count(0), 3);
        due("odds 7", x.count(1), 7);
    }

    private static void system() {
        FrozenTrees x = of(HELPED);
        due("lines", x.count(4), 6);
        due("tape empty", x.count(5), 0);
        x.does(0, 1, 9, 0);
        Check.feed(x, "system law 0 odds 0;fork 1;");
        due("a fault", x.system(), -4);
        due("told stay", x.count(2), 5);
        due("acts stay", x.count(3), 1);
        due("process stays", x.alive(6), 1 + 2 + 8 + 256);
        due("tape empty behind a fault", x.count(5), 0);
        due("fault told", x.fault(0), 1);
        Check.feed(x, BARE);
        due("another", x.system(), 1);
        due("nothing done", x.count(3), 0);
        due("fault gone", x.fault(0), 0);
        due("place gone", x.fault(1), -1);
        due("no tick 1", x.alive(1), -2);
        Check.feed(x, " \n ");
        due("blanks alone", x.system(), 0);
        due("no SYSTEM", x.alive(0), -2);
        Check.feed(x, BARE);
        x.system();
        due("empty", x.system(), 0);
        due("no SYSTEM now", x.alive(0), -2);
        due("no lines", x.count(4), 0);
    }

    private static void fault(String text, int fault, int place) {
        FrozenTrees x = new FrozenTrees();
        Check.feed(x, text);
        due(text, x.system(), -4);
        due(text + " fault", x.fault(0), fault);
        due(text + " place", x.fault(1), place);
        due(text + " what 2", x.fault(2), -1);
        due(text + " what -1", x.fault(-1), -1);
    }

    private static void good(String text, int lines) {
        FrozenTrees x = new FrozenTrees();
        Check.feed(x, text);
        due(text, x.system(), lines);
    }

    private static void faults() {
        fault("system law 0 odds 0", 1, 19);
        fault("system law 0 odds 0 \n", 1, 21);
        fault("system law 0 odds 0;;", 1, 20);
        fault("system law 4 odds 0;", 2, 11);
        fault("system law 0 odds 11;", 2, 18);
        fault("system odds 0 law 0;", 1, 7);
        fault("system law law 0;", 1, 11);
        fault("system", 1, 6);
        fault(";", 1, 0);
        fault("7", 1, 0);
        fault("  fork 1 2;", 1, 2);
        fault("system law -1 odds 0;", 1, 11);
        fault("system\tlaw 0 odds 0;", 1, 6);
        fault("system law 0\rodds 0;", 1, 12);
        fault("systemlaw 0 odds 0;", 1, 0);
        fault("System law 0 odds 0;", 1, 0);
        fault(BARE + BARE, 1, 20);
        fault(BARE + "forks 1 2;", 1, 20);
        fault(BARE + "for 1 2;", 1, 20);
        fault(BARE + "odds 1;", 1, 20);
        fault(BARE + "1;", 1, 20);
        fault(BARE + "fork 1;", 1, 26);
        fault(BARE + "fork 1 2 3;", 1, 29);
        fault(BARE + "fork 1 x;", 1, 27);
        fault(BARE + "fork 1 2x;", 1, 28);
        fault(BARE + "fork 1 16;", 2, 27);
        fault(BARE + "fork 1 0;", 2, 27);
        fault(BARE + "fork 0 16;", 2, 25);
        fault(BARE + "fork 1 99999999999999999999999;", 2, 27);
        fault(BARE + "fork 1 4294967298;", 2, 27);
        fault(BARE + "lead 16;", 2, 25);
        fault(BARE + "lead 1 1;", 1, 27);
        fault(BARE + "exit;", 1, 24);
        fault(BARE + "open 1 8;", 2, 27);
        fault(BARE + "pipe 1 7 8;", 2, 29);
        fault(BARE + "copy 1 8 7;", 2, 27);
        fault(BARE + "close 1 8;", 2, 28);
        fault(BARE + "write 1 0 0;", 2, 30);
        fault(BARE + "write 1 0 31;", 2, 30);
        fault(BARE + "read 1 0 31;", 2, 29);
        fault(BARE + "touch 1 8;", 2, 28);
        fault(BARE + "touch 1 8", 2, 28);
        fault(BARE + "touch 1 7", 1, 29);
        good(BARE + "fork1 2;\nfork 015 0000000000000000001;", 3);
        good("\n system\nlaw 03odds 10 ; lead 15 ;write 15 7 30;read 1 0 1;touch 1 7;pipe 1 7 7;", 6);
        good("", 0);
        String forty = BARE + "lead 1;".repeat(40);
        good(forty, 41);
        fault(forty + "lead 1;", 3, 300);
        fault(forty + " lead 99;", 3, 301);
        fault(forty + "leads 1;", 1, 300);
        fault(forty + "system law 0 odds 0;", 1, 300);
        fault(forty + ";", 1, 300);
        fault(BARE + "lead 1;".repeat(39) + "lead 0;lead 1;", 2, 298);
    }

    private static void events() {
        FrozenTrees x = of("system law 0 odds 0;fork 1 15;lead 2;exit 3;open 4 7;pipe 5 6 5;copy 6 1 2;close 7 3;"
            + "write 8 4 30;read 9 5 1;touch 10 6;");
        int[][] want = {{0, 1, 15, -1}, {1, 2, -1, -1}, {2, 3, -1, -1}, {3, 4, 7, -1}, {4, 5, 6, 5}, {5, 6, 1, 2},
            {6, 7, 3, -1}, {7, 8, 4, 30}, {8, 9, 5, 1}, {9, 10, 6, -1}};
        for (int e = 0; e < want.length; e++) {
            for (int what = 0; what < 4; what++) {
                due("event " + e + " " + what, x.event(e, what), want[e][what]);
            }
        }
        due("event -1", x.event(-1, 0), -2);
        due("event 10", x.event(10, 0), -2);
        due("what 4", x.event(0, 4), -2);
        due("what -1", x.event(0, -1), -2);
        x.does(7, 1, 2, 29);
        due("an act's kind", x.event(10, 0), 7);
        due("an act's N", x.event(10, 3), 29);
        due("event 11", x.event(11, 0), -2);
    }

    private static void refusals() {
        FrozenTrees x = of("system law 0 odds 0;fork 2 3;fork 1 1;lead 1;exit 1;pipe 1 0 0;open 1 0;open 1 0;"
            + "pipe 1 1 0;pipe 1 0 1;copy 1 0 0;copy 1 5 6;close 1 5;write 1 5 1;read 1 5 1;write 1 0 1;read 1 0 1;"
            + "pipe 1 1 2;write 1 1 1;read 1 2 1;read 1 1 1;write 1 2 30;write 1 2 30;write 1 2 1;close 1 1;"
            + "write 1 2 30;");
        int[] why = {1, 2, 2, 2, 3, 0, 3, 3, 3, 3, 3, 3, 3, 3, 4, 4, 0, 4, 4, 5, 0, 0, 6, 0, 5};
        int before = 0;
        for (int e = 0; e < why.length; e++) {
            due("refused " + e, x.refused(e), why[e]);
            due("refusals " + e, x.refusals(e), before);
            before += why[e] == 0 ? 0 : 1;
        }
        due("refusals at the end", x.refusals(why.length), before);
        due("refusals beyond", x.refusals(why.length + 1), -2);
        due("refusals -1", x.refusals(-1), -2);
        due("refused -1", x.refused(-1), -2);
        due("refused 25", x.refused(why.length), -2);
        FrozenTrees y = of("system law 0 odds 0;fork 1 2;exit 2;fork 1 2;fork 2 3;touch 2 0;");
        due("alive ever", y.refused(2), 2);
        due("dead forks", y.refused(3), 1);
        due("dead touches", y.refused(4), 1);
        FrozenTrees z = of("system law 0 odds 0;fork 1 2;lead 2;lead 2;fork 2 2;pipe 2 3 4;write 2 4 5;exit 2;");
        due("leads already", z.refused(2), 2);
        due("forks itself", z.refused(3), 2);
    }

    private static void processes() {
        FrozenTrees x = of(HELPED);
        due("alive 0", x.alive(0), 1);
        due("alive 4", x.alive(4), 15);
        due("alive 5", x.alive(5), 11);
        due("alive 6", x.alive(6), -2);
        due("alive -1", x.alive(-1), -2);
        due("parent of 1", x.parent(1, 5), 0);
        due("parent of 4", x.parent(4, 4), 3);
        due("parent of 4 then", x.parent(4, 5), 1);
        due("parent of the dead", x.parent(3, 5), -1);
        due("parent of 0", x.parent(0, 5), -2);
        due("parent of 16", x.parent(16, 5), -2);
        due("parent beyond", x.parent(1, 6), -2);
        due("session of 1", x.session(1, 5), 1);
        due("session of 2", x.session(2, 1), 1);
        due("session of 4", x.session(4, 5), 2);
        due("session of the dead", x.session(3, 5), -1);
        due("session of 16", x.session(16, 5), -2);
        due("session beyond", x.session(1, -1), -2);
        due("kids of 1", x.kids(1, 4), 2);
        due("kids of 1 then", x.kids(1, 5), 10);
        due("kids of 3", x.kids(3, 4), 8);
        due("kids of the dead", x.kids(3, 5), 0);
        due("kids of 0", x.kids(0, 5), -2);
        due("kids beyond", x.kids(1, 6), -2);
        due("under 1", x.under(1, 4), 3);
        due("under 2", x.under(2, 4), 2);
        due("under 2 then", x.under(2, 5), 0);
        due("under the dead", x.under(3, 5), 0);
        due("under 16", x.under(16, 5), -2);
        due("under beyond", x.under(1, 6), -2);
        due("depth of 1", x.depth(1, 0), 1);
        due("depth of 4", x.depth(4, 4), 4);
        due("depth of 4 then", x.depth(4, 5), 2);
        due("depth of the dead", x.depth(3, 5), -1);
        due("depth of 0", x.depth(0, 0), -2);
        due("members of 2", x.members(2, 4), 14);
        due("members of 2 then", x.members(2, 5), 10);
        due("members of 3", x.members(3, 5), 0);
        due("members of 0", x.members(0, 5), -2);
        due("members of 16", x.members(16, 5), -2);
        due("members beyond", x.members(1, 6), -2);
        due("sessions 1", x.sessions(1), 1);
        due("sessions 5", x.sessions(5), 2);
        due("sessions 6", x.sessions(6), -2);
        FrozenTrees y = of("system law 0 odds 0;fork 1 2;lead 2;fork 2 3;exit 2;");
        due("a session whose leader is gone", y.sessions(4), 2);
        due("its members", y.members(2, 4), 4);
    }

    private static void hung(String text, int tick, int... parents) {
        FrozenTrees x = of(text);
        for (int p = 1; p <= parents.length; p++) {
            due(text + " parent of " + p, x.parent(p, tick), parents[p - 1]);
        }
    }

    private static void laws() {
        String tree = " odds 0;fork 1 2;fork 2 3;lead 3;fork 3 6;fork 3 5;fork 3 4;fork 5 7;exit 3;";
        hung("system law 0" + tree, 8, 0, 1, -1, 1, 1, 1, 5);
        hung("system law 1" + tree, 8, 0, 1, -1, 2, 2, 2, 5);
        hung("system law 2" + tree, 8, 0, 1, -1, 1, 1, 1, 5);
        hung("system law 3" + tree, 8, 0, 1, -1, 2, 4, 4, 5);
        String led = " odds 0;fork 1 2;lead 2;fork 2 3;fork 3 4;fork 3 5;lead 5;exit 3;";
        hung("system law 0" + led, 7, 0, 1, -1, 1, 1);
        hung("system law 1" + led, 7, 0, 1, -1, 2, 2);
        hung("system law 2" + led, 7, 0, 1, -1, 2, 1);
        hung("system law 3" + led, 7, 0, 1, -1, 2, 4);
        // 3 is of session 2, whose leader is itself an orphan by then
        hung("system law 2 odds 0;fork 1 9;fork 9 2;lead 2;fork 2 4;fork 4 3;exit 9;exit 4;", 7, 0, 1, 2);
    }

    private static void bornAndDied() {
        FrozenTrees x = of(HELPED);
        due("born 1", x.born(1), 0);
        due("born 2", x.born(2), 1);
        due("born 4", x.born(4), 4);
        due("born 5", x.born(5), -1);
        due("born 0", x.born(0), -2);
        due("born 16", x.born(16), -2);
        due("died 3", x.died(3), 5);
        due("died 2", x.died(2), -1);
        due("died 5", x.died(5), -1);
        due("died 16", x.died(16), -2);
        x.does(0, 1, 5, 0);
        x.does(2, 5, 0, 0);
        due("born by an act", x.born(5), 6);
        due("died by an act", x.died(5), 7);
        due("a refused fork gives no birth", of("system law 0 odds 0;fork 2 3;").born(3), -1);
    }

    private static void handles() {
        FrozenTrees x = of(HANDLES);
        due("object 1 0", x.object(1, 0, 1), 0);
        due("object 1 1", x.object(1, 1, 2), 1);
        due("object 1 2", x.object(1, 2, 2), 2);
        due("object 2 2", x.object(2, 2, 3), 2);
        due("object closed", x.object(1, 2, 5), -1);
        due("object of the dead", x.object(2, 0, 6), -1);
        due("object not yet", x.object(1, 0, 0), -1);
        due("handle 8", x.object(1, 8, 0), -2);
        due("handle -1", x.object(1, -1, 0), -2);
        due("process 0", x.object(0, 0, 0), -2);
        due("tick 8", x.object(1, 0, 8), -2);
        due("handles 1", x.handles(1, 4), 7);
        due("handles 1 then", x.handles(1, 5), 3);
        due("handles of the dead", x.handles(2, 6), 0);
        due("handles of 16", x.handles(16, 6), -2);
        due("handles at 8", x.handles(1, 8), -2);
        due("holds 0", x.holds(0, 3), 2);
        due("holds 2", x.holds(2, 5), 1);
        due("holds 2 gone", x.holds(2, 6), 0);
        due("holds 199", x.holds(199, 6), 0);
        due("holds 200", x.holds(200, 6), -2);
        due("holds -1", x.holds(-1, 6), -2);
        due("holds at 8", x.holds(0, 8), -2);
        due("kind FILE", x.kind(0, 7), 0);
        due("kind READ END", x.kind(1, 7), 1);
        due("kind WRITE END, gone", x.kind(2, 7), 2);
        due("kind not made by then", x.kind(1, 1), -1);
        due("kind not made", x.kind(3, 7), -1);
        due("kind 200", x.kind(200, 7), -2);
        due("kind at -1", x.kind(0, -1), -2);
        due("objects 0", x.objects(0), 0);
        due("objects 2", x.objects(2), 3);
        due("objects 6", x.objects(6), 2);
        due("objects 8", x.objects(8), -2);
        FrozenTrees y = of("system law 0 odds 0;open 1 0;close 1 0;open 1 0;copy 1 0 7;close 1 0;");
        due("numbers are not used again", y.object(1, 0, 3), 1);
        due("a copy is the same", y.object(1, 7, 5), 1);
        due("copied, held twice", y.holds(1, 4), 2);
        due("and once", y.holds(1, 5), 1);
    }

    private static void pipes() {
        FrozenTrees x = of(HANDLES);
        due("queued", x.queued(1, 4), 10);
        due("queued, the other END", x.queued(2, 4), 10);
        due("queued, WRITE END gone", x.queued(2, 6), 10);
        due("all read without a WRITE END", x.queued(1, 7), 0);
        due("queued of a FILE", x.queued(0, 7), -1);
        due("queued of none", x.queued(3, 7), -1);
        due("queued not by then", x.queued(1, 1), -1);
        due("queued 200", x.queued(200, 1), -2);
        due("queued at 8", x.queued(1, 8), -2);
        due("bytes 3", x.bytes(3), 0);
        due("bytes 6", x.bytes(6), 10);
        due("bytes 7", x.bytes(7), 0);
        due("bytes 8", x.bytes(8), -2);
        x.does(6, 1, 1, 0);
        due("queued, both gone", x.queued(1, 8), -1);
        due("queued, both gone too", x.queued(2, 8), -1);
        FrozenTrees y = of("system law 0 odds 0;pipe 1 0 1;write 1 1 20;close 1 0;write 1 1 1;close 1 1;");
        due("READ END gone", y.bytes(3), 20);
        due("nobody reads", y.refused(3), 5);
        due("both gone", y.bytes(5), 0);
        FrozenTrees z = of("system law 0 odds 0;pipe 1 0 1;pipe 1 2 3;write 1 1 30;write 1 1 30;write 1 3 7;"
            + "read 1 0 30;read 1 2 8;read 1 2 7;");
        due("two pipes", z.bytes(5), 67);
        due("60 are let", z.refused(3), 0);
        due("read some", z.queued(0, 6), 30);
        due("fewer than N", z.refused(6), 5);
        due("read all", z.queued(3, 8), 0);
        FrozenTrees w = of("system law 0 odds 0;pipe 1 0 1;fork 1 2;close 1 1;read 1 0 1;exit 2;read 1 0 1;");
        due("a WRITE END of some one", w.refused(3), 5);
        due("none any more", w.refused(5), 0);
        FrozenTrees v = of("system law 0 odds 0;pipe 1 0 1;copy 1 0 2;close 1 0;write 1 1 3;close 1 2;write 1 1 3;");
        due("a copied READ END", v.refused(3), 0);
        due("that is closed", v.refused(5), 5);
    }

    private static void labels() {
        FrozenTrees x = of("system law 0 odds 0;open 1 3;fork 1 2;open 2 0;open 1 5;close 1 3;copy 2 0 7;open 1 0;");
        due("label 1 3", x.label(1, 3, 2), 0);
        due("label 2 3", x.label(2, 3, 2), 0);
        due("label 2 0 behind", x.label(2, 0, 3), 1);
        due("label 1 5 ahead of it", x.label(1, 5, 4), 1);
        due("label 2 0 then", x.label(2, 0, 4), 2);
        due("label 1 5 first", x.label(1, 5, 5), 0);
        due("label 2 0 second", x.label(2, 0, 5), 1);
        due("label 2 3 third", x.label(2, 3, 5), 2);
        due("label of a copy", x.label(2, 7, 6), 1);
        due("label 1 0 of the newest", x.label(1, 0, 7), 0);
        due("label of none", x.label(1, 3, 5), -1);
        due("label of the not alive", x.label(9, 3, 5), -1);
        due("label handle 8", x.label(1, 8, 5), -2);
        due("label process 16", x.label(16, 0, 5), -2);
        due("label at 8", x.label(1, 0, 8), -2);
        due("sharers", x.sharers(1, 3, 2), 3);
        due("sharers, one closed", x.sharers(2, 3, 5), 2);
        due("sharers of a copy", x.sharers(2, 7, 6), 2);
        due("sharers of none", x.sharers(1, 3, 5), 0);
        due("sharers of the not alive", x.sharers(9, 3, 5), 0);
        due("sharers handle -1", x.sharers(1, -1, 5), -2);
        due("sharers at -1", x.sharers(1, 0, -1), -2);
    }

    private static void shapes() {
        FrozenTrees x = of("system law 0 odds 0;open 1 0;close 1 0;open 1 0;touch 1 1;");
        due("alike whatever the numbers", x.alike(1, 3), 1);
        due("alike to itself", x.alike(2, 2), 1);
        due("unlike", x.alike(0, 1), 0);
        due("pages are no part", x.alike(3, 4), 1);
        due("alike beyond", x.alike(0, 5), -2);
        due("alike ahead", x.alike(-1, 0), -2);
        due("same 2", x.same(2), 0);
        due("same 4", x.same(4), 1);
        due("same 5", x.same(5), -2);
        due("same -1", x.same(-1), -2);
        due("shapes", x.shapes(), 2);
        due("usual", x.usual(), 1);
        x.does(6, 1, 0, 0);
        due("usual, the one met first", x.usual(), 0);
        due("same by an act", x.same(5), 0);
        x.undo();
        x.does(3, 1, 7, 0);
        due("same anew", x.same(5), 5);
        due("shapes anew", x.shapes(), 3);
        FrozenTrees y = of("system law 0 odds 0;pipe 1 0 3;close 1 3;pipe 1 4 3;close 1 4;");
        due("another pipe's other END", y.alike(1, 4), 0);
        FrozenTrees z = of("system law 0 odds 0;pipe 1 0 1;write 1 1 5;read 1 0 4;read 1 0 1;");
        due("bytes are a part", z.alike(1, 2), 0);
        due("how many", z.alike(2, 3), 0);
        due("as many", z.alike(1, 4), 1);
        FrozenTrees w = of("system law 0 odds 0;open 1 0;open 1 1;close 1 1;copy 1 0 1;");
        due("one OBJECT or two", w.alike(2, 4), 0);
        FrozenTrees v = of("system law 0 odds 0;fork 1 2;lead 2;exit 2;");
        due("sessions are a part", v.alike(1, 2), 0);
        due("who is alive", v.same(3), 0);
        FrozenTrees u = of("system law 1 odds 0;fork 1 2;fork 2 3;fork 1 4;exit 4;exit 2;");
        due("as before 4", u.same(4), 2);
        FrozenTrees t = of("system law 0 odds 0;pipe 1 0 1;close 1 1;copy 1 0 1;close 1 0;pipe 1 0 7;");
        due("READ END at 1 alone", t.alike(2, 4), 0);
    }

    private static void plan() {
        FrozenTrees x = of(HELPED);
        due("how 1", x.how(1, 5), 1);
        due("how 2", x.how(2, 5), 1);
        due("how 2 of session 1", x.how(2, 1), 2);
        due("how 4 below 3", x.how(4, 4), 2);
        due("how 4 by a helper", x.how(4, 5), 4);
        due("how of the dead", x.how(3, 5), -1);
        due("how of 16", x.how(16, 5), -2);
        due("how beyond", x.how(1, 6), -2);
        due("lost", x.lost(5), 0);
        due("lost beyond", x.lost(6), -2);
        due("steps of 1 alone", x.steps(0), 0);
        due("steps by fork", x.steps(1), 1);
        due("steps by lead", x.steps(2), 2);
        due("steps by a helper", x.steps(5), 5);
        due("steps beyond", x.steps(-1), -2);
        due("raised 0", x.raised(0, 5), 1);
        due("raised 2", x.raised(2, 5), 4);
        due("raised 3", x.raised(3, 5), -1);
        due("raised -1", x.raised(-1, 5), -2);
        due("raised beyond", x.raised(0, 6), -2);
        due("helpers", x.helpers(5), 1);
        due("helpers none", x.helpers(4), 0);
        due("helpers beyond", x.helpers(6), -2);
        due("safe", x.safe(), 5);
        x.does(2, 2, 0, 0);
        due("its leader is gone", x.how(4, 6), 0);
        due("lost then", x.lost(6), 8);
        due("steps then", x.steps(6), 0);
        due("safe still", x.safe(), 5);
        x.does(2, 4, 0, 0);
        due("safe again", x.safe(), 7);
    }

    private static void planByFork() {
        // 4 and 6 are forked by 3 ahead of its lead; 2 is 7's leader, but has a higher number than 5
        FrozenTrees x = of("system law 0 odds 0;fork 1 3;fork 3 4;lead 3;fork 3 5;fork 5 6;lead 5;");
        due("ahead of the lead", x.how(4, 6), 3);
        due("lead", x.how(5, 6), 1);
        due("ahead of the lead of 5", x.how(6, 6), 3);
        due("steps", x.steps(6), 6);
        // by law 0 2 hangs from 1, of session 9, which is raised behind it
        FrozenTrees y = of("system law 0 odds 0;fork 1 9;lead 9;fork 9 8;fork 8 2;fork 2 3;exit 8;");
        due("passed over", y.raised(1, 6), 9);
        due("looked at again", y.raised(2, 6), 2);
        due("then what hangs from it", y.raised(3, 6), 3);
        due("by a helper", y.how(2, 6), 4);
        due("by fork", y.how(3, 6), 2);
        due("steps with a helper", y.steps(6), 6);
        // 6 is of session 2, two leads above
        FrozenTrees z = of("system law 0 odds 0;fork 1 2;lead 2;fork 2 3;fork 3 4;fork 4 6;lead 3;lead 4;");
        due("two leads above", z.how(6, 7), 0);
        due("lost", z.lost(7), 32);
        due("safe", z.safe(), 6);
        // 3 hangs from 1, of a session that is gone; what hangs from it is lost, too
        FrozenTrees w = of("system law 0 odds 0;fork 1 2;lead 2;fork 2 3;fork 3 4;lead 4;exit 2;");
        due("below the lost", w.lost(6), 12);
        due("a leader below the lost", w.how(4, 6), 0);
        due("parent 1 is not raised by 1 for that", w.how(3, 6), 0);
    }

    private static void pages() {
        FrozenTrees x = of(PAGES);
        due("dirty 1", x.dirty(1, 0, 7), 3);
        due("dirty 1 again", x.dirty(1, 1, 7), 3);
        due("dirty 1 between", x.dirty(1, 2, 6), 2);
        due("dirty 1 at first", x.dirty(1, 0, 0), 0);
        due("dirty 2 by fork", x.dirty(2, 0, 5), 255);
        due("dirty 2 by touch", x.dirty(2, 2, 5), 8);
        due("dirty 2 not", x.dirty(2, 3, 5), 0);
        due("dirty 2 dead", x.dirty(2, 0, 6), 0);
        due("dirty 9", x.dirty(9, 0, 7), 0);
        due("dirty z below a", x.dirty(1, 4, 3), -2);
        due("dirty 0", x.dirty(0, 0, 3), -2);
        due("dirty 16", x.dirty(16, 0, 3), -2);
        due("dirty to 8", x.dirty(1, 0, 8), -2);
        due("dirty from -1", x.dirty(1, -1, 3), -2);
        int[] rounds = {8, 9, 2, 0, 1, -1};
        for (int r = 0; r < rounds.length; r++) {
            due("round " + r, x.round(0, 2, 7, r), rounds[r]);
        }
        due("round 2 at z", x.round(0, 3, 6, 2), 1);
        due("round 3 is none", x.round(0, 3, 6, 3), -1);
        due("round 0 of two", x.round(2, 40, 5, 0), 16);
        due("round 1 of two", x.round(2, 40, 5, 1), 2);
        due("round z not above a", x.round(3, 1, 3, 0), -2);
        due("round e 0", x.round(0, 0, 3, 0), -2);
        due("round e 41", x.round(0, 41, 3, 0), -2);
        due("round -1", x.round(0, 1, 3, -1), -2);
        due("round to 8", x.round(0, 1, 8, 0), -2);
        due("round from -1", x.round(-1, 1, 3, 0), -2);
        due("copied each 2", x.copied(0, 2, 7), 20);
        due("copied each 3", x.copied(0, 3, 6), 18);
        due("copied each 6", x.copied(0, 6, 7), 11);
        due("copied e 0", x.copied(0, 0, 7), -2);
        due("copied e 41", x.copied(0, 41, 7), -2);
        due("copied z not above a", x.copied(7, 1, 7), -2);
        due("pace", x.pace(0, 7), 6);
        due("pace, the greatest", x.pace(0, 1), 40);
        due("pace, each TICK", of("system law 0 odds 0;touch 1 0;lead 1;").pace(0, 2), 1);
        due("pace, fewest in the last ahead of fewest in all", of("system law 0 odds 0;touch 1 0;touch 1 0;lead 1;"
            + "lead 1;touch 1 1;").pace(0, 4), 3);
        due("pace z not above a", x.pace(2, 2), -2);
        due("pace to 8", x.pace(0, 8), -2);
        due("pace from -1", x.pace(-1, 3), -2);
    }

    private static void leftOut() {
        FrozenTrees x = of("system law 0 odds 0;fork 1 2;exit 2;fork 1 3;exit 3;");
        due("spare, the first", x.spare(), 1);
        due("spare, most", of("system law 0 odds 0;fork 1 2;exit 2;fork 1 3;exit 3;fork 3 4;").spare(), 3);
        due("spare of a fork", of("system law 0 odds 0;fork 1 3;exit 3;fork 1 3;").spare(), 0);
        due("spare none", of("system law 0 odds 0;fork 1 2;").spare(), -1);
        FrozenTrees y = of("system law 0 odds 0;fork 1 2;");
        y.does(2, 2, 0, 0);
        due("an act is not left out", y.spare(), -1);
        due("root by an act", y.root(), 0);
        FrozenTrees z = of("system law 0 odds 0;fork 1 2;open 2 0;touch 2 1;exit 2;touch 2 2;");
        due("root", z.root(), 0);
        due("root none", of("system law 0 odds 0;touch 1 0;").root(), -1);
        due("root of a refused one", of("system law 0 odds 0;fork 2 3;").root(), -1);
        // without the first lead the second one is done: none more
        due("less those that are not any more", of("system law 0 odds 0;fork 1 2;lead 2;lead 2;").root(), 0);
        due("as many", of("system law 0 odds 0;open 1 0;open 1 0;").root(), -1);
        due("the first of several", of("system law 0 odds 0;open 1 0;open 1 1;close 1 0;close 1 1;").root(), 0);
        due("the one by most", of("system law 0 odds 0;open 1 0;pipe 1 1 2;close 1 0;write 1 2 1;read 1 1 1;").root(), 1);
    }

    private static void tell(FrozenTrees x, int slot, int width, long... numbers) {
        x.row(slot, width, numbers.length);
        for (int i = 0; i < numbers.length; i++) {
            due("write " + i, x.write(slot, i, numbers[i]), 0);
        }
    }

    private static void seenAs(FrozenTrees x, int slot, int may, int which, int plain, int laws) {
        due("may", x.may(slot), may);
        due("which", x.which(slot), which);
        due("plain", x.plain(slot), plain);
        due("laws", x.laws(slot), laws);
    }

    private static void seen() {
        FrozenTrees x = of("system law 0 odds 0;fork 1 2;fork 2 3;exit 2;fork 1 4;");
        tell(x, 0, 0, 4, 3, 2);
        seenAs(x, 0, 1, 2, 0, 0);
        tell(x, 0, 0, 4, 3, 1);
        seenAs(x, 0, 1, 3, 1, 15);
        tell(x, 0, 0, 4, 3, -1);
        seenAs(x, 0, 2, 0, 0, 0);
        tell(x, 1, 1, 4, 4, 1, 0, 1, 0, 2, 3, 2);
        seenAs(x, 1, 1, 2, 1, 15);
        tell(x, 1, 2, 4, 4, 1, 4, 3, 5);
        seenAs(x, 1, 0, -1, 0, 0);
        tell(x, 2, 3, 4, 2, -1);
        seenAs(x, 2, 3, 0, 1, 15);
        tell(x, 2, 3, 4, 5, 0);
        seenAs(x, 2, 0, -1, 0, 0);
        x.row(3, 0, 0);
        seenAs(x, 3, 4, 0, 1, 15);
        tell(x, 3, 0, 4, 2, 255);
        seenAs(x, 3, 3, 0, 1, 15);
        tell(x, 3, 1, 65540, 2, 65535);
        seenAs(x, 3, 3, 0, 1, 15);
        tell(x, 3, 2, 4294967300L, 2, 4294967295L);
        seenAs(x, 3, 3, 0, 1, 15);
        x.does(2, 4, 0, 0);
        tell(x, 3, 0, 5, 4, -1);
        seenAs(x, 3, 4, 0, 1, 15);
        String tree = " odds 0;fork 1 2;fork 2 3;lead 3;fork 3 4;fork 3 5;exit 3;";
        FrozenTrees y = of("system law 3" + tree);
        tell(y, 0, 0, 6, 4, 2);
        seenAs(y, 0, 2, 2, 1, 10);
        tell(y, 0, 0, 6, 5, 4);
        seenAs(y, 0, 1, 2, 1, 8);
        tell(y, 0, 0, 6, 5, 1);
        seenAs(y, 0, 0, -1, 0, 5);
    }

    private static void seenWrong(FrozenTrees x, int slot, int want) {
        due("may " + slot, x.may(slot), want);
        due("which " + slot, x.which(slot), want);
        due("plain " + slot, x.plain(slot), want);
        due("laws " + slot, x.laws(slot), want);
    }

    private static void seenWrong() {
        FrozenTrees x = of("system law 0 odds 0;fork 1 2;fork 2 3;exit 2;fork 1 4;");
        seenWrong(x, 4, -2);
        seenWrong(x, -1, -2);
        seenWrong(x, 0, -6);
        long[][] wrong = {{5, 1, 0}, {-1, 1, 0}, {4, 0, 0}, {4, 16, 0}, {4, 1, 16}, {4, 1, -2}, {4, 1}, {4},
            {4, 1, 0, 4}, {4, 1, 0, 4, 2, -1, 5, 1, 0}, {4294967296L, 1, 0}, {4, 4294967297L, 0}, {4, 2, 4294967295L}};
        for (long[] numbers : wrong) {
            tell(x, 0, 3, numbers);
            seenWrong(x, 0, -2);
        }
        FrozenTrees y = new FrozenTrees();
        tell(y, 0, 0, 0, 1, 0);
        seenWrong(y, 0, -2);
        seenWrong(y, 1, -2);
    }

    private static void otherLaws() {
        FrozenTrees x = of("system law 3 odds 0;fork 1 2;lead 2;fork 2 3;fork 3 4;fork 4 5;fork 5 6;lead 3;lead 4;"
            + "lead 5;exit 5;");
        int[] lost = {0, 1, 0, 1};
        for (int l = 0; l < 4; l++) {
            due("by " + l, x.by(l), lost[l]);
        }
        due("law, the least of several", x.law(), 0);
        due("by -1", x.by(-1), -2);
        due("by 4", x.by(4), -2);
        due("the LAW told stays", x.lost(10), 32);
        FrozenTrees y = of("system law 0 odds 0;fork 1 2;lead 2;fork 2 3;fork 3 5;fork 5 6;lead 5;exit 3;");
        int[] lostThere = {1, 0, 1, 0};
        for (int l = 0; l < 4; l++) {
            due("by " + l + " there", y.by(l), lostThere[l]);
        }
        due("law 1", y.law(), 1);
        y.does(2, 6, 0, 0);
        due("at the last TICK", y.by(0), 0);
    }

    private static void shares() {
        FrozenTrees x = of("system law 0 odds 0;fork 1 2;fork 2 3;fork 3 4;exit 4;");
        due("worth 0", x.worth(0), 2);
        due("worth 1", x.worth(1), 2);
        due("worth 2", x.worth(2), 3);
        due("worth 4", x.worth(4), 2);
        due("worth 6", x.worth(6), 4);
        due("worth 14", x.worth(14), 3);
        due("worth of all", x.worth(32767), 3);
        due("worth -1", x.worth(-1), -2);
        due("worth 32768", x.worth(32768), -2);
        int[][] want = {{7, 6}, {1, 6}, {-1, 3}, {0, 1}, {0, 1}, {0, 1}};
        for (int p = 2; p <= 7; p++) {
            due("share of " + p, x.share(p, 0), want[p - 2][0]);
            due("share below " + p, x.share(p, 1), want[p - 2][1]);
        }
        due("share of 1", x.share(1, 0), -1000);
        due("share of 8", x.share(8, 0), -1000);
        due("share what 2", x.share(2, 2), -1000);
        due("share what -1", x.share(2, -1), -1000);
        x.does(0, 4, 5, 0);
        due("acts of others are left out", x.worth(6), 4);
        due("acts of these not", x.worth(14), 3);
        // 8 .. 15 are in each set
        FrozenTrees y = of("system law 0 odds 0;fork 1 8;fork 8 2;fork 2 9;exit 9;");
        due("with 8 and 9", y.share(2, 0), 0);
        due("without 9", y.worth(2 + 128), 4);
    }

    private static void game() {
        FrozenTrees x = of("system law 1 odds 0;fork 1 2;fork 2 3;fork 3 4;fork 2 5;");
        int[][] want = {{2, 3, 0, 0, 9}, {2, 3, 1, 0, 2}, {2, 3, 0, 1, 6}, {2, 3, 1, 1, 2}, {3, 2, 0, 0, 3},
            {3, 2, 1, 0, 2}, {3, 2, 0, 1, 3}, {3, 2, 1, 1, 2}, {9, 2, 0, 0, 0}, {9, 2, 1, 0, 0}, {2, 9, 0, 1, 9}};
        for (int[] w : want) {
            due("gets " + w[0] + " " + w[1] + " " + w[2] + " " + w[3], x.gets(w[0], w[1], w[2], w[3]), w[4]);
        }
        due("rests", x.rests(2, 3), 1);
        due("rests with none alive", x.rests(8, 9), 15);
        due("rests of 2 with one not alive", x.rests(2, 9), 5);
        due("rests of 4, who has none", x.rests(4, 9), 10);
        FrozenTrees y = of("system law 3 odds 0;fork 1 2;fork 2 3;fork 2 4;");
        due("gets by the other's exit", y.gets(3, 2, 0, 1), 3);
        due("rests by law 3", y.rests(2, 3), 4);
        due("rests by law 3, the other way", y.rests(3, 2), 2);
        due("nothing was done", y.alive(3), 15);
        int[][] wrong = {{1, 2, 0, 0}, {2, 1, 0, 0}, {2, 2, 0, 0}, {16, 2, 0, 0}, {2, 16, 0, 0}, {2, 3, 2, 0},
            {2, 3, 0, 2}, {2, 3, -1, 0}, {2, 3, 0, -1}, {0, 2, 0, 0}};
        for (int[] w : wrong) {
            due("gets wrong " + w[0] + " " + w[1], x.gets(w[0], w[1], w[2], w[3]), -2);
        }
        due("rests 1", x.rests(1, 2), -2);
        due("rests 2 1", x.rests(2, 1), -2);
        due("rests twice", x.rests(3, 3), -2);
        due("rests 16", x.rests(16, 3), -2);
        due("rests 3 16", x.rests(3, 16), -2);
    }

    private static void fraction(FrozenTrees x, int process, int k, long above, long below) {
        due("chance of " + process + " by " + k, x.chance(process, k, 0), above);
        due("chance below of " + process + " by " + k, x.chance(process, k, 1), below);
    }

    private static void meanOf(FrozenTrees x, int k, long above, long below) {
        due("mean by " + k, x.mean(k, 0), above);
        due("mean below by " + k, x.mean(k, 1), below);
    }

    private static void chance() {
        FrozenTrees x = of("system law 0 odds 3;fork 1 2;fork 2 3;exit 2;");
        fraction(x, 3, 2, 7, 10);
        fraction(x, 2, 2, 3, 10);
        fraction(x, 2, 3, 21, 100);
        fraction(x, 3, 3, 49, 100);
        fraction(x, 1, 3, 1, 1);
        fraction(x, 15, 3, 0, 1);
        fraction(x, 2, 0, 0, 1);
        fraction(x, 3, 0, 1, 1);
        meanOf(x, 0, 2, 1);
        meanOf(x, 2, 2, 1);
        meanOf(x, 3, 17, 10);
        due("not so many", x.chance(1, 4, 0), -2);
        due("mean not so many", x.mean(4, 0), -2);
        due("process 0", x.chance(0, 1, 0), -2);
        due("process 16", x.chance(16, 1, 0), -2);
        due("what 2", x.chance(1, 1, 2), -2);
        due("what -1", x.chance(1, 1, -1), -2);
        due("k -1", x.chance(1, -1, 0), -2);
        due("mean k -1", x.mean(-1, 0), -2);
        due("mean what 2", x.mean(1, 2), -2);
        x.does(0, 1, 4, 0);
        fraction(x, 4, 1, 7, 10);
        fraction(x, 2, 1, 0, 1);
        FrozenTrees never = of("system law 0 odds 0;fork 1 2;fork 2 3;exit 2;");
        fraction(never, 3, 3, 1, 1);
        meanOf(never, 3, 2, 1);
        FrozenTrees ever = of("system law 0 odds 10;fork 1 2;fork 2 3;exit 2;");
        fraction(ever, 3, 3, 0, 1);
        meanOf(ever, 3, 1, 1);
        FrozenTrees six = of("system law 0 odds 1;fork 1 2;fork 2 3;fork 3 4;fork 4 5;fork 5 6;fork 6 7;fork 7 8;");
        fraction(six, 8, 6, 531441, 1000000);
        due("k 7", six.chance(8, 7, 0), -2);
        due("mean k 7", six.mean(7, 0), -2);
    }

    private static void acts() {
        FrozenTrees x = of("system law 1 odds 4;fork 1 2;");
        due("fork", x.does(0, 2, 3, 0), 0);
        due("fork again", x.does(0, 2, 3, 0), 2);
        due("not alive", x.does(9, 9, 0, 0), 1);
        due("acts", x.count(3), 3);
        due("told", x.count(2), 1);
        due("tick 4", x.alive(4), 7);
        due("refusals", x.refusals(4), 2);
        due("undo", x.undo(), 2);
        due("tick 4 no more", x.alive(4), -2);
        due("undo 2", x.undo(), 1);
        due("exit", x.does(2, 2, 0, 0), 0);
        due("by the LAW told", x.parent(3, 3), 1);
        due("anew", x.anew(), 2);
        due("anew of none", x.anew(), 0);
        due("undo of none", x.undo(), -5);
        due("as told", x.alive(1), 3);
        for (int i = 0; i < 30; i++) {
            due("act " + i, x.does(9, 1, 7, 0), 0);
        }
        due("act 30", x.does(9, 1, 7, 0), -5);
        due("wrong ahead of spent", x.does(9, 1, 8, 0), -2);
        due("30 stand", x.count(3), 30);
        due("tick 31", x.alive(31), 3);
        due("undo to 29", x.undo(), 29);
        due("act 29", x.does(0, 1, 3, 0), 0);
        due("tick 31 then", x.alive(31), 7);
        due("undone and done otherwise", x.undo(), 29);
        due("act 29 otherwise", x.does(0, 1, 4, 0), 0);
        due("tick 31 otherwise", x.alive(31), 11);
        FrozenTrees y = of("system law 0 odds 0;" + "pipe 1 0 1;close 1 0;".repeat(20));
        for (int i = 0; i < 30; i++) {
            y.does(4, 1, 2 * (i % 3) + 2, 2 * (i % 3) + 3);
            if (i % 3 == 2) {
                y.undo();
            }
        }
        due("70 EVENTS at most", y.count(2) + y.count(3) <= 70 ? 1 : 0, 1);
    }

    private static void actBounds() {
        FrozenTrees x = of(BARE);
        int[][] most = {{15, 15, 0}, {15, 0, 0}, {15, 0, 0}, {15, 7, 0}, {15, 7, 7}, {15, 7, 7}, {15, 7, 0},
            {15, 7, 30}, {15, 7, 30}, {15, 7, 0}};
        int[][] least = {{1, 1, 0}, {1, 0, 0}, {1, 0, 0}, {1, 0, 0}, {1, 0, 0}, {1, 0, 0}, {1, 0, 0},
            {1, 0, 1}, {1, 0, 1}, {1, 0, 0}};
        for (int kind = 0; kind < 10; kind++) {
            int[] a = most[kind];
            int[] b = least[kind];
            due("most of " + kind, x.does(kind, a[0], a[1], a[2]), 1);
            due("least of " + kind, x.does(kind, b[0], b[1], b[2]) >= 0 ? 1 : 0, 1);
            due("p above " + kind, x.does(kind, a[0] + 1, a[1], a[2]), -2);
            due("h above " + kind, x.does(kind, a[0], a[1] + 1, a[2]), -2);
            due("g above " + kind, x.does(kind, a[0], a[1], a[2] + 1), -2);
            due("p below " + kind, x.does(kind, b[0] - 1, b[1], b[2]), -2);
            due("h below " + kind, x.does(kind, b[0], b[1] - 1, b[2]), -2);
            due("g below " + kind, x.does(kind, b[0], b[1], b[2] - 1), -2);
        }
        due("kind 10", x.does(10, 1, 0, 0), -2);
        due("kind -1", x.does(-1, 1, 0, 0), -2);
        due("wrong ones are no acts", x.count(3), 20);
    }

    private static void drawn() {
        // of seed 1 the draws are 8 8 3 5 1 7 0 9 2 6
        StringBuilder forks = new StringBuilder();
        for (int c = 2; c <= 11; c++) {
            forks.append("fork 1 ").append(c).append(';');
        }
        FrozenTrees x = of("system law 0 odds 5;" + forks);
        due("left out", x.drawn(1, 0), 4);
        due("alive", x.drawn(1, 1), 7);
        for (int c = 1; c <= 12; c++) {
            boolean out = c == 4 || c == 6 || c == 8 || c == 10 || c == 12;
            due("luck of " + c, x.luck(1, 1, c), out ? 0 : 1);
        }
        due("by odds 3", of("system law 0 odds 3;" + forks).drawn(1, 0), 3);
        due("by odds 6", of("system law 0 odds 6;" + forks).drawn(1, 0), 5);
        due("by odds 0", of("system law 0 odds 0;" + forks).drawn(1, 0), 0);
        due("by odds 10", of("system law 0 odds 10;" + forks).drawn(1, 1), 1);
        int times = 0;
        for (int s = 1999999990; s < 2000000000; s++) {
            times += x.luck(s, 1, 5);
        }
        due("luck of ten", x.luck(1999999990, 10, 5), times);
        due("seed 2,000,000,000", x.drawn(2000000000, 0) >= 0 ? 1 : 0, 1);
        due("seed above", x.drawn(2000000001, 0), -2);
        due("seed below", x.drawn(-1, 0), -2);
        due("what 2", x.drawn(1, 2), -2);
        due("what -1", x.drawn(1, -1), -2);
        due("n 0", x.luck(1, 0, 1), -2);
        due("n 20", x.luck(1, 20, 1), 20);
        due("n 21", x.luck(1, 21, 1), -2);
        due("process 0", x.luck(1, 1, 0), -2);
        due("process 16", x.luck(1, 1, 16), -2);
        due("luck seed below", x.luck(-1, 1, 1), -2);
        due("luck seed above", x.luck(2000000001, 1, 1), -2);
        x.does(0, 1, 12, 0);
        due("an act is drawn, too", x.drawn(1, 0) >= 4 ? 1 : 0, 1);
        due("all acts by odds 10", allOut(), 3);
    }

    private static int allOut() {
        FrozenTrees x = of("system law 0 odds 10;fork 1 2;lead 2;");
        x.does(0, 1, 3, 0);
        return x.drawn(99, 0);
    }

    private static void count() {
        FrozenTrees x = of("system law 2 odds 9;fork 1 2;lead 2;");
        x.does(2, 2, 0, 0);
        x.feed(0, 0, 0, 0, 0);
        x.row(1, 0, 3);
        x.row(3, 0, 0);
        int[] want = {2, 9, 2, 1, 3, 20, 2, -1};
        for (int what = 0; what < want.length; what++) {
            due("count " + what, x.count(what), want[what]);
        }
        due("count -1", x.count(-1), -1);
    }

    private static void images() {
        FrozenTrees x = of("system law 2 odds 9;fork 1 2;lead 2;");
        x.does(2, 2, 0, 0);
        x.row(0, 0, 3);
        due("image 0", x.image(0), 0);
        due("image 3", x.image(3), -2);
        due("image -1", x.image(-1), -2);
        due("back 3", x.back(3), -2);
        due("back -1", x.back(-1), -2);
        due("back 1", x.back(1), -6);
        x.does(0, 1, 5, 0);
        x.row(1, 0, 3);
        Check.feed(x, "system law 1 odds 0;fork 1 3;");
        x.system();
        x.image(1);
        Check.feed(x, "lead");
        due("back 0", x.back(0), 0);
        due("law", x.count(0), 2);
        due("odds", x.count(1), 9);
        due("told", x.count(2), 2);
        due("acts", x.count(3), 1);
        due("lines", x.count(4), 3);
        due("the TAPE stays", x.count(5), 4);
        due("rows stay", x.count(6), 2);
        due("alive", x.alive(3), 1);
        due("alive at 2", x.alive(2), 3);
        due("no tick 4", x.alive(4), -2);
        x.anew();
        due("back 0 again", x.back(0), 0);
        due("acts again", x.count(3), 1);
        due("back 1 then", x.back(1), 0);
        due("alive there", x.alive(1), 5);
        x.system();
        x.image(2);
        Check.feed(x, BARE);
        x.system();
        x.system();
        FrozenTrees y = new FrozenTrees();
        due("image of none", y.image(0), 0);
        Check.feed(y, BARE);
        y.system();
        due("back to none", y.back(0), 0);
        due("no SYSTEM", y.alive(0), -2);
    }

    private static void rows() {
        FrozenTrees x = of(BARE);
        due("row", x.row(0, 0, 60), 0);
        due("row of none", x.row(3, 3, 0), 0);
        due("slot 4", x.row(4, 0, 1), -2);
        due("slot -1", x.row(-1, 0, 1), -2);
        due("width 4", x.row(0, 4, 1), -2);
        due("width -1", x.row(0, -1, 1), -2);
        due("n 61", x.row(0, 0, 61), -2);
        due("n -1", x.row(0, 0, -1), -3);
        due("n -1 of no slot", x.row(4, 0, -1), -2);
        due("the row stays", x.write(0, 59, 1), 0);
        due("number 60", x.write(0, 60, 1), -7);
        due("number -1", x.write(0, -1, 1), -7);
        due("number 0 of none", x.write(3, 0, 1), -7);
        due("write slot 4", x.write(4, 0, 1), -2);
        due("write slot -1", x.write(-1, 0, 1), -2);
        due("write nothing", x.write(1, 0, 1), -6);
        tell(x, 1, 0, 0, 1, 0);
        due("as told", x.plain(1), 1);
        x.row(1, 0, 3);
        due("all 0, no PROCESS", x.plain(1), -2);
        due("in place of another", x.write(0, 3, 0), 0);
        x.row(0, 0, 3);
        due("it is shorter", x.write(0, 3, 0), -7);
    }

    private static void paste() {
        FrozenTrees x = of("system law 0 odds 0;fork 1 2;");
        tell(x, 0, 0, 9, 1, 2, 1, 1, 1, 0);
        x.row(1, 0, 3);
        due("paste", x.paste(0, 4, 1, 0, 3), 0);
        due("1 hangs from 0 at 1", x.plain(1), 1);
        // 9 1 1 2 1 1 0: what was there, not what has been put
        due("onto its own", x.paste(0, 1, 0, 2, 3), 0);
        due("seen from 2 on", x.paste(0, 2, 1, 0, 3), 0);
        due("2 hangs from 1 at 1", x.plain(1), 1);
        // 1 1 0 2 1 1 0 by moving down
        tell(x, 2, 0, 9, 9, 1, 2, 1, 9);
        due("down onto its own", x.paste(2, 2, 2, 1, 3), 0);
        due("seen from 1 on", x.paste(2, 1, 1, 0, 3), 0);
        due("2 hangs from 1", x.plain(1), 1);
        due("slot 4", x.paste(4, 0, 1, 0, 1), -2);
        due("to 4", x.paste(0, 0, 4, 0, 1), -2);
        due("slot -1", x.paste(-1, 0, 3, 0, 1), -2);
        due("to -1", x.paste(3, 0, -1, 0, 1), -2);
        due("nothing there", x.paste(3, 0, 1, 0, 1), -6);
        due("nothing to", x.paste(1, 0, 3, 0, 1), -6);
        due("nothing at all", x.paste(3, 9, 3, 9, 1), -6);
        x.row(3, 1, 3);
        due("widths", x.paste(1, 0, 3, 0, 1), -8);
        due("widths ahead of places", x.paste(1, -1, 3, 99, -1), -8);
        due("from beyond", x.paste(0, 5, 1, 0, 3), -7);
        due("to beyond", x.paste(0, 0, 1, 1, 3), -7);
        due("from below", x.paste(0, -1, 1, 0, 1), -7);
        due("to below", x.paste(0, 0, 1, -1, 1), -7);
        due("n below", x.paste(0, 1, 1, 1, -1), -7);
        due("far beyond", x.paste(0, 1, 1, 1, Integer.MAX_VALUE), -7);
        due("from far beyond", x.paste(0, Integer.MAX_VALUE, 1, 0, 1), -7);
        due("nothing happened", x.plain(1), 1);
        due("none at the end", x.paste(0, 7, 1, 3, 0), 0);
        due("all", x.paste(1, 0, 1, 0, 3), 0);
    }

    /** A chain of all fifteen, the last of whom is an edge of every loop over PROCESSES. */
    private static void fifteen() {
        StringBuilder chain = new StringBuilder("system law 1 odds 0;");
        for (int p = 1; p < 15; p++) {
            chain.append("fork ").append(p).append(' ').append(p + 1).append(';');
        }
        FrozenTrees x = of(chain + "open 15 7;lead 15;touch 15 7;exit 14;");
        due("all alive", x.alive(14), 32767);
        due("kids of 14", x.kids(14, 14), 16384);
        due("under 1", x.under(1, 14), 14);
        due("under 14", x.under(14, 14), 1);
        due("depth of 15", x.depth(15, 14), 15);
        due("members of 1", x.members(1, 14), 32767);
        due("members of 1 then", x.members(1, 16), 16383);
        due("members of 15", x.members(15, 16), 16384);
        due("one session", x.sessions(14), 1);
        due("two sessions", x.sessions(16), 2);
        due("born 15", x.born(15), 14);
        due("object of 15", x.object(15, 7, 15), 0);
        due("label of 15", x.label(15, 7, 15), 0);
        due("sharers of 15", x.sharers(15, 7, 15), 16384);
        due("objects", x.objects(15), 1);
        due("dirty of 15", x.dirty(15, 14, 18), 128);
        due("copied of 15", x.round(14, 4, 18, 1), 1);
        due("15 hangs from 13", x.parent(15, 18), 13);
        due("raised last", x.raised(14, 14), 15);
        due("raised no more", x.raised(15, 14), -1);
        due("steps", x.steps(14), 14);
        due("steps with a lead", x.steps(16), 15);
        due("how 15", x.how(15, 16), 1);
        due("unlike by 15", x.alike(14, 15), 0);
        due("unlike by 15's session", x.alike(15, 16), 0);
        due("gets of 15", x.gets(15, 13, 0, 0), 0);
        due("gets of 13", x.gets(13, 15, 0, 0), 3);
        due("gets of 13, by 15's exit", x.gets(13, 15, 0, 1), 0);
        due("all raised by law 0", x.by(0), 0);
        tell(x, 0, 0, 18, 15, 13);
        due("15 seen", x.plain(0), 1);
        tell(x, 0, 0, 18, 13, 15);
        due("15 not seen so", x.plain(0), 0);
        due("chance of 15", x.chance(15, 6, 0), 1);
        due("worth of all", x.worth(32767), 14);
        due("worth without 14", x.worth(32767 - 8192), 14);
        due("luck of 15", x.luck(0, 3, 15), 3);
        FrozenTrees y = of(chain + "lead 14;exit 13;");
        due("all but 13 raised", y.lost(16), 0);
        due("15 ahead of 14's lead", y.how(15, 16), 3);
    }

    /** 40 EVENTS told and 30 acts. */
    private static void seventy() {
        FrozenTrees x = of("system law 0 odds 0;" + "pipe 1 0 1;close 1 0;close 1 1;open 1 0;close 1 0;".repeat(8));
        for (int i = 0; i < 10; i++) {
            due("pipe " + i, x.does(4, 1, 2, 3), 0);
            due("close " + i, x.does(6, 1, 2, 0), 0);
            due("close too " + i, x.does(6, 1, 3, 0), 0);
        }
        due("no room", x.does(9, 1, 0, 0), -5);
        due("alive at 70", x.alive(70), 1);
        due("no 71", x.alive(71), -2);
        due("same at 70", x.same(70), 0);
        due("same at 69", x.same(69), 42);
        due("shapes", x.shapes(), 6);
        due("usual", x.usual(), 0);
        due("the last OBJECT", x.kind(43, 70), 2);
        due("none behind it", x.kind(44, 70), -1);
        due("event 69", x.event(69, 0), 6);
        due("event 70", x.event(70, 0), -2);
        due("refusals", x.refusals(70), 0);
        due("round 70", x.round(0, 1, 70, 70), 0);
        due("round 71", x.round(0, 1, 70, 71), -1);
        due("pace", x.pace(0, 70), 40);
        tell(x, 0, 0, 70, 1, 0);
        due("may", x.may(0), 40);
    }

    /** What was asked ahead of a change is not answered behind it. */
    private static void runsForgotten() {
        FrozenTrees x = of("system law 0 odds 0;fork 1 2;fork 1 3;");
        x.image(0);
        due("first", x.alive(2), 7);
        due("shapes of the first", x.shapes(), 3);
        Check.feed(x, "system law 0 odds 0;fork 1 4;lead 1;");
        x.system();
        due("second", x.alive(2), 9);
        due("refusals of the second", x.refusals(2), 1);
        due("shapes of the second", x.shapes(), 2);
        x.back(0);
        due("first again", x.alive(2), 7);
        due("shapes of the first again", x.shapes(), 3);
        x.does(0, 1, 5, 0);
        x.does(3, 5, 0, 0);
        due("acts", x.alive(4), 23);
        due("shapes with acts", x.shapes(), 5);
        x.anew();
        x.does(9, 1, 0, 0);
        x.does(9, 2, 0, 0);
        due("other acts", x.alive(4), 7);
        due("shapes with other acts", x.shapes(), 3);
        due("same with other acts", x.same(4), 2);
        x.undo();
        x.does(2, 3, 0, 0);
        due("another act", x.alive(4), 3);
        due("same with another act", x.same(4), 1);
        FrozenTrees y = of("system law 0 odds 5;fork 1 2;fork 1 3;fork 1 4;fork 1 5;");
        // the draws of seed 0: 0 8 8 7, of seed 1: 8 8 3 5, of seed 2: 8 7 9 4
        due("luck of 2", y.luck(0, 3, 2), 2);
        due("luck of 3", y.luck(0, 3, 3), 3);
        due("luck of 4", y.luck(0, 3, 4), 2);
        due("luck of 5", y.luck(0, 3, 5), 2);
        due("seed 0", y.drawn(0, 0), 1);
        FrozenTrees z = of("system law 0 odds 0;fork 1 2;fork 2 3;");
        due("each exits once the other does", z.rests(2, 3), 8);
        due("the other way", z.rests(3, 2), 8);
    }

    private static void shapesClosely() {
        FrozenTrees x = of("system law 0 odds 0;pipe 1 0 1;open 1 2;write 1 1 5;");
        due("bytes ahead of a FILE", x.alike(2, 3), 0);
        FrozenTrees y = of("system law 0 odds 0;pipe 1 0 1;write 1 1 5;close 1 1;read 1 0 2;");
        due("bytes of a READ END alone", y.alike(3, 4), 0);
        FrozenTrees z = of("system law 0 odds 0;open 1 0;copy 1 0 7;close 1 0;copy 1 7 6;close 1 7;");
        due("at another HANDLE", z.alike(1, 3), 0);
        due("at 6 and at 7", z.alike(3, 5), 0);
        due("at two HANDLES", z.alike(2, 4), 0);
        due("six shapes", z.shapes(), 6);
        FrozenTrees w = of("system law 0 odds 0;open 1 0;fork 1 2;open 1 1;close 2 0;open 2 0;close 2 0;copy 2 1 0;");
        due("2 has no HANDLE 1", w.refused(6), 3);
        due("a FILE of its own or not", w.alike(3, 5), 0);
        due("as behind the first close", w.same(6), 4);
        FrozenTrees v = of("system law 0 odds 0;pipe 1 0 1;close 1 0;open 1 0;close 1 1;open 1 1;");
        due("a FILE or a READ END", v.alike(1, 3), 0);
        due("two FILES", v.same(5), 5);
    }
}
