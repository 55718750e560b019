import java.math.BigInteger;

/** Terms III to IX: SHAPES, the plan, PRECOPY, SEEN, sets, the GAME, CHANCE and DRAWS. */
final class TermEdges {
    private TermEdges() {}

    static void test() {
        labels();
        shapesOfProcesses();
        shapesOfHandles();
        shapesOfEnds();
        raised();
        how();
        howNot();
        steps();
        precopy();
        seen();
        sets();
        orders();
        game();
        rest();
        chance();
        draws();
        runs();
    }

    private static void labels() {
        Edges.says("III", "LABEL of a HANDLE held at a TICK: HANDLES that are held are looked through by PROCESSES, then HANDLES;");
        FrozenTrees x = Edges.of(Edges.BARE + "open 1 7;fork 1 15;open 15 0;open 1 0;fork 1 2;");
        Edges.due("1's HANDLE 0, opened last", x.label(1, 0, 5), 0);
        Edges.due("1's HANDLE 7, opened first", x.label(1, 7, 5), 1);
        Edges.due("15's HANDLE 0, behind 1's", x.label(15, 0, 5), 2);
        Edges.says("III", "OBJECTS are numbered from 0 as they are first met.");
        Edges.due("2's HANDLE 0 is 1's", x.label(2, 0, 5), 0);
        Edges.due("15's HANDLE 7 is 1's", x.label(15, 7, 5), 1);
        Edges.due("ahead of that", x.label(15, 0, 3), 1);
        // as many LABELS as there can be HANDLES of one PROCESS, and of a second one
        FrozenTrees y = Edges.of(Edges.BARE + "fork 1 15;pipe 1 0 1;pipe 1 2 3;pipe 1 4 5;pipe 1 6 7;pipe 15 0 1;pipe 15 2 3;"
            + "pipe 15 4 5;pipe 15 6 7;");
        Edges.due("the last LABEL", y.label(15, 7, 9), 15);
        Edges.due("1's last LABEL", y.label(1, 7, 9), 7);
    }

    private static void alike(String text, int a, int b, int want) {
        FrozenTrees x = Edges.of(Edges.BARE + text);
        Edges.due("alike(" + a + ", " + b + ") of " + text, x.alike(a, b), want);
        Edges.due("alike(" + b + ", " + a + ") of " + text, x.alike(b, a), want);
    }

    private static void shapesOfProcesses() {
        Edges.says("III", "SHAPE at a TICK: who is alive,");
        alike("fork 1 2;exit 2;fork 1 3;", 1, 3, 0);
        alike("fork 1 2;exit 2;", 0, 2, 1);
        alike("fork 1 15;exit 15;", 0, 1, 0);
        Edges.says("III", "from whom each hangs,");
        FrozenTrees x = Edges.of("system law 1 odds 0;fork 1 2;fork 2 3;fork 3 4;exit 3;fork 1 5;exit 5;");
        Edges.due("4 from 3 or from 2", x.alike(3, 4), 0);
        Edges.due("4 from 2 again", x.alike(4, 6), 1);
        // the same ones alive, of the same sessions: 15 hangs from 14, then from 13
        FrozenTrees y = Edges.of("system law 1 odds 0;fork 1 13;fork 13 14;fork 14 15;fork 13 2;exit 2;exit 14;");
        Edges.due("15 from 14", y.same(5), 3);
        Edges.due("15 from 13", y.same(6), 6);
        FrozenTrees z = Edges.of("system law 0 odds 0;fork 1 2;fork 1 3;fork 2 4;fork 3 5;exit 3;exit 2;");
        Edges.due("each exit is seen", z.shapes(), 7);
        Edges.says("III", "its session,");
        alike("fork 1 2;lead 2;", 1, 2, 0);
        alike("fork 1 15;lead 15;", 1, 2, 0);
        alike("fork 1 2;lead 1;", 1, 2, 1);
        // from session 2 to session 3 below 8; from session 14 to session 15 below 1
        alike("fork 1 2;lead 2;fork 2 8;fork 8 3;lead 3;", 4, 5, 0);
        alike("fork 1 14;lead 14;fork 14 2;fork 2 15;exit 2;lead 15;", 5, 6, 0);
    }

    private static void shapesOfHandles() {
        Edges.says("III", "the LABELS of its HANDLES,");
        alike("open 1 0;close 1 0;open 1 0;", 1, 3, 1);
        alike("open 1 0;copy 1 0 1;close 1 0;", 1, 3, 0);
        alike("open 1 6;copy 1 6 7;close 1 6;", 1, 3, 0);
        alike("open 1 7;copy 1 7 0;close 1 7;", 1, 3, 0);
        alike("open 1 0;open 1 1;close 1 1;copy 1 0 1;", 2, 4, 0);
        alike("open 1 0;fork 1 15;close 15 0;open 15 0;", 2, 4, 0);
        alike("fork 1 15;open 15 7;close 15 7;open 15 7;", 2, 4, 1);
        // each HANDLE alone, of an OBJECT that another one holds on
        for (int h = 0; h < 8; h++) {
            alike("open 1 " + h + ";fork 1 15;lead 15;close 15 " + h + ";", 3, 4, 0);
            alike("open 1 " + h + ";fork 1 2;close 2 " + h + ";", 2, 3, 0);
        }
        alike("open 1 0;open 1 1;fork 1 2;close 2 0;copy 2 1 0;", 3, 5, 0);
        // the same two FILES by the same HANDLES, made the other way about
        alike("open 1 0;open 1 1;close 1 0;close 1 1;open 1 1;open 1 0;", 2, 6, 1);
        manyLabels();
        Edges.says("III", "of each LABEL whether it is a FILE, a READ END, a WRITE END,");
        alike("open 1 0;close 1 0;pipe 1 0 1;close 1 1;", 1, 4, 0);
        alike("open 1 0;close 1 0;pipe 1 1 0;close 1 1;", 1, 4, 0);
        alike("pipe 1 0 1;close 1 1;close 1 0;pipe 1 1 0;close 1 1;", 2, 5, 0);
        alike("pipe 1 0 1;close 1 0;close 1 1;pipe 1 1 0;", 1, 4, 0);
        alike("pipe 1 0 1;close 1 0;close 1 1;pipe 1 0 1;", 1, 4, 1);
    }

    /** 1 .. 9 hold LABELS 0 .. 63, 10 holds 0 and 64 (47 EVENTS): each other HANDLE of 10 by acts, 0 or 64. */
    private static void manyLabels() {
        StringBuilder b = new StringBuilder(Edges.BARE).append("open 1 0;");
        for (int c = 2; c <= 10; c++) {
            b.append("fork 1 ").append(c).append(';');
        }
        for (int p = 1; p <= 7; p++) {
            b.append("pipe ").append(p).append(" 1 2;pipe ").append(p).append(" 3 4;pipe ").append(p).append(" 5 6;");
            b.append("open ").append(p).append(" 7;");
        }
        FrozenTrees x = Edges.of(b.toString());
        for (int p = 8; p <= 9; p++) {
            x.does(4, p, 1, 2);
            x.does(4, p, 3, 4);
            x.does(4, p, 5, 6);
            x.does(3, p, 7, 0);
        }
        x.does(3, 10, 2, 0);
        x.image(0);
        Edges.due("the last LABEL", x.label(10, 2, 47), 64);
        int[] free = {1, 3, 4, 5, 6, 7};
        for (int h : free) {
            x.back(0);
            x.does(5, 10, 0, h);
            x.does(6, 10, h, 0);
            x.does(5, 10, 2, h);
            Edges.due("LABEL 64 by " + h, x.label(10, h, 50), 64);
            Edges.due("LABEL 0 or none by " + h, x.alike(47, 48), 0);
            Edges.due("LABEL 0 or 64 by " + h, x.alike(48, 50), 0);
            Edges.due("none again by " + h, x.alike(47, 49), 1);
        }
    }

    private static void shapesOfEnds() {
        Edges.says("III", "of ENDS how many bytes there are,");
        alike("pipe 1 0 1;write 1 1 1;", 1, 2, 0);
        alike("pipe 1 0 1;write 1 1 30;write 1 1 29;write 1 1 1;", 3, 4, 0);
        alike("pipe 1 0 1;write 1 1 30;write 1 1 30;read 1 0 30;", 2, 4, 1);
        alike("pipe 1 0 1;write 1 1 5;close 1 1;read 1 0 1;", 3, 4, 0);
        alike("pipe 1 0 1;write 1 1 5;close 1 0;close 1 1;pipe 1 0 1;write 1 1 6;close 1 0;", 3, 7, 0);
        alike("pipe 1 0 1;write 1 1 4;close 1 0;close 1 1;pipe 1 0 1;write 1 1 5;close 1 0;", 3, 7, 0);
        alike("pipe 1 0 1;write 1 1 5;close 1 0;close 1 1;pipe 1 0 1;write 1 1 5;close 1 0;", 3, 7, 1);
        // 1 byte and 33, beside a FILE between the ENDS; a FILE, or an END alone, ahead of a PIPE
        alike("open 1 1;pipe 1 0 2;write 1 2 1;write 1 2 30;write 1 2 2;", 3, 5, 0);
        alike("open 1 0;pipe 1 1 2;write 1 2 5;", 2, 3, 0);
        alike("pipe 1 0 1;close 1 1;pipe 1 2 3;write 1 3 5;", 3, 4, 0);
        alike("pipe 1 0 1;close 1 0;pipe 1 2 3;write 1 3 5;", 3, 4, 0);
        // bytes of the fourth and of the fifth PIPE, with all HANDLES of 1 and of 15 held
        String pipes = "fork 1 15;pipe 1 0 1;pipe 1 2 3;pipe 1 4 5;pipe 1 6 7;pipe 15 0 1;";
        alike(pipes + "write 1 7 30;write 1 7 30;", 7, 8, 0);
        alike(pipes + "write 15 1 1;", 6, 7, 0);
        alike(pipes + "write 1 1 30;write 1 1 30;write 1 3 1;write 1 3 1;", 9, 10, 0);
        thirteenEnds();
        Edges.says("III", "and the LABEL of the other one (if it is held).");
        // two READ ENDS and two WRITE ENDS by the same HANDLES, but which is whose
        alike("pipe 1 0 2;pipe 1 1 3;close 1 2;close 1 3;close 1 0;close 1 1;pipe 1 0 3;pipe 1 1 2;", 2, 8, 0);
        alike("pipe 1 0 2;pipe 1 1 3;close 1 2;close 1 3;close 1 0;close 1 1;pipe 1 1 3;pipe 1 0 2;", 2, 8, 1);
        // a READ END and a WRITE END of one PIPE or of two
        alike("pipe 1 0 1;close 1 1;pipe 1 7 1;close 1 7;", 1, 4, 0);
        // of two PIPES' ENDS one is another one's, the others are not held
        alike("pipe 1 0 6;pipe 1 1 7;close 1 7;close 1 6;close 1 0;close 1 1;pipe 1 0 7;pipe 1 1 6;close 1 7;", 3, 9, 0);
        Edges.says("III", "TICKS are ALIKE, if their SHAPES are.");
        alike("touch 1 0;lead 1;exit 1;", 0, 3, 1);
        alike("open 1 0;touch 1 0;", 1, 2, 1);
        alike("fork 1 2;touch 2 7;read 1 0 1;", 1, 3, 1);
    }

    /** READ ENDS alone, one byte each, seven of 1 and six of 15, in 40 EVENTS; then one of them is read by an act. */
    private static void thirteenEnds() {
        StringBuilder b = new StringBuilder(Edges.BARE).append("fork 1 15;");
        for (int i = 0; i < 13; i++) {
            String p = i < 7 ? " 1 " : " 15 ";
            b.append("pipe").append(p).append(i % 7).append(" 7;write").append(p).append("7 1;close").append(p).append("7;");
        }
        FrozenTrees x = Edges.of(b.toString());
        Edges.due("thirteen LABELS", x.objects(40), 13);
        for (int i = 0; i < 13; i++) {
            int p = i < 7 ? 1 : 15;
            Edges.due("LABEL " + i, x.label(p, i % 7, 40), i);
            x.does(8, p, i % 7, 1);
            Edges.due("one byte or none of LABEL " + i, x.alike(40, 41), 0);
            x.undo();
            x.does(6, p, i % 7, 0);
            x.does(3, p, i % 7, 0);
            Edges.due("a READ END or a FILE at LABEL " + i, x.alike(40, 42), 0);
            x.anew();
        }
        x.does(9, 15, 0, 0);
        Edges.due("nothing is read", x.alike(40, 41), 1);
    }

    private static void order(FrozenTrees x, int tick, int... processes) {
        for (int i = 0; i < processes.length; i++) {
            Edges.due("raised(" + i + ", " + tick + ")", x.raised(i, tick), processes[i]);
        }
        Edges.due("raised(" + processes.length + ", " + tick + ")", x.raised(processes.length, tick), -1);
    }

    private static void raised() {
        Edges.says("IV", "RAISED at a TICK: PROCESS 1 first;");
        order(Edges.of(Edges.BARE), 0, 1);
        order(Edges.of(Edges.BARE + "fork 1 2;"), 1, 1, 2);
        Edges.says("IV", "then again and again the least one, not RAISED yet, whose parent (from whom it hangs) is, and for which "
            + "there is a HOW by then (others are passed over, and looked at again), till there is none.");
        order(Edges.of(Edges.BARE + "fork 1 15;fork 15 2;fork 1 9;fork 9 8;"), 4, 1, 9, 8, 15, 2);
        // 2 is of session 9, and hangs from 1: passed over till 9 is RAISED, then ahead of 10
        order(Edges.of(Edges.BARE + "fork 1 9;lead 9;fork 9 8;fork 8 2;fork 2 3;exit 8;fork 1 10;"), 7, 1, 9, 2, 3, 10);
        // 4 is of a session whose leader is gone: it, and what hangs from it, is never RAISED
        order(Edges.of(Edges.BARE + "fork 1 2;lead 2;fork 2 4;fork 4 3;fork 3 7;exit 2;fork 1 5;"), 7, 1, 5);
        FrozenTrees x = Edges.of(Edges.chain(Edges.BARE));
        order(x, 14, 1, 2, 3, 4, 5, 6, 7, 8, 9, 10, 11, 12, 13, 14, 15);
        // a chain down to the least: one each time
        order(Edges.of(Edges.BARE + "fork 1 15;fork 15 14;fork 14 13;fork 13 12;"), 4, 1, 15, 14, 13, 12);
    }

    private static void how() {
        Edges.says("IV", "HOW, the first of these:");
        // 2 ahead of 4: 1, whose number its session has, is RAISED, and is its parent
        Edges.due("of 1's session, from 1", Edges.of(Edges.BARE + "fork 1 2;").how(2, 1), 2);
        Edges.due("it leads, its parent's leads", Edges.of(Edges.BARE + "fork 1 2;lead 2;fork 2 3;lead 3;").how(3, 4), 1);
        Edges.says("IV", "1 its session is itself: forked by its parent, then lead.");
        FrozenTrees x = Edges.of(Edges.BARE + "fork 1 15;lead 15;fork 15 2;lead 2;");
        Edges.due("below 1", x.how(15, 2), 1);
        Edges.due("below another one", x.how(2, 4), 1);
        Edges.says("IV", "2 its session is its parent's: forked by its parent (behind its lead).");
        Edges.due("its parent leads", x.how(2, 3), 2);
        Edges.due("1's", x.how(15, 1), 2);
        Edges.due("nobody's number", Edges.of("system law 1 odds 0;fork 1 2;lead 2;fork 2 3;fork 3 4;exit 2;").how(4, 5), 0);
        Edges.says("IV", "3 its parent (not PROCESS 1) is RAISED by 1, and its session is that of the parent's parent: forked by "
            + "its parent ahead of its lead.");
        FrozenTrees y = Edges.of(Edges.BARE + "fork 1 2;fork 2 15;lead 2;fork 15 3;lead 15;");
        Edges.due("of 1's session", y.how(15, 3), 3);
        // 3 is of 1's session, below 15, who leads, below 2, who leads: that is not the parent's parent's
        Edges.due("two leads above", y.how(3, 5), 0);
        FrozenTrees z = Edges.of(Edges.BARE + "fork 1 4;lead 4;fork 4 5;fork 5 6;lead 5;");
        Edges.due("of another session", z.how(6, 5), 3);
        FrozenTrees w = Edges.of("system law 1 odds 0;fork 1 2;fork 2 3;lead 2;fork 2 4;fork 3 5;exit 3;");
        Edges.due("it came to hang from one who leads", w.how(5, 6), 3);
        FrozenTrees v = Edges.of("system law 3 odds 0;fork 1 2;fork 2 4;lead 2;fork 2 3;exit 2;");
        Edges.due("4 of session 1 below 3 of session 2", v.parent(4, 5), 3);
        Edges.due("3 is of a session that is gone", v.how(3, 5), 0);
        Edges.due("so 4 is not RAISED", v.how(4, 5), 0);
        Edges.says("IV", "4 its parent is 1, and its session's number is RAISED: by a HELPER, whom that one forks, who forks it, "
            + "and exits.");
        FrozenTrees u = Edges.of(Edges.BARE + "fork 1 15;lead 15;fork 15 3;fork 3 2;exit 3;");
        Edges.due("by a HELPER of 15's", u.how(2, 5), 4);
        Edges.due("one HELPER", u.helpers(5), 1);
        Edges.due("of the parent's session", u.how(2, 4), 2);
    }

    private static void howNot() {
        Edges.says("IV", "0: none, it is never RAISED.");
        FrozenTrees x = Edges.of(Edges.BARE + "fork 1 15;lead 15;fork 15 3;fork 3 2;exit 3;exit 15;");
        Edges.due("its session's number is gone", x.how(2, 6), 0);
        Edges.due("it is lost", x.lost(6), 2);
        // by LAW 1 it hangs from 4, not from 1: no HELPER
        FrozenTrees y = Edges.of("system law 1 odds 0;fork 1 4;lead 4;fork 4 5;fork 5 6;fork 6 7;lead 5;lead 6;");
        Edges.due("two leads above, below no 1", y.how(7, 7), 0);
        // the session's number is alive, but is itself not RAISED
        FrozenTrees z = Edges.of(Edges.BARE + "fork 1 2;lead 2;fork 2 3;fork 3 4;lead 4;fork 4 5;fork 5 6;exit 2;exit 5;");
        Edges.due("3 is lost", z.how(3, 9), 0);
        Edges.due("4, who leads, below it", z.how(4, 9), 0);
        Edges.due("6 of session 4, below 1", z.how(6, 9), 0);
        Edges.due("all three", z.lost(9), 4 + 8 + 32);
    }

    private static void steps() {
        Edges.says("IV", "STEPS of the plan: 1 by 2, 3; 2 by 1; 3 by 4 (PROCESS 1: 0).");
        Edges.due("1 alone", Edges.of(Edges.BARE).steps(0), 0);
        FrozenTrees x = Edges.of(Edges.BARE + "fork 1 2;fork 2 4;lead 2;fork 2 3;fork 3 5;exit 3;");
        Edges.due("by 2", x.steps(1), 1);
        Edges.due("by 2, 2", x.steps(2), 2);
        Edges.due("by 1, 3", x.steps(3), 3);
        Edges.due("by 1, 3, 2", x.steps(4), 4);
        Edges.due("by 1, 3, 4", x.steps(6), 6);
        x.does(2, 2, 0, 0);
        // 5 is lost; 4 is of 1's session, and hangs from 1
        Edges.due("the lost ones take none", x.steps(7), 1);
    }

    private static void precopy() {
        FrozenTrees x = Edges.of(Edges.BARE + "touch 1 0;touch 1 1;fork 1 2;touch 1 2;touch 2 3;exit 2;touch 1 3;");
        Edges.says("V", "PRECOPY from a TICK a, each e TICKS, to a TICK z: at a all PAGES of all alive are copied;");
        Edges.due("of one", x.round(0, 1, 7, 0), 8);
        Edges.due("of two", x.round(3, 1, 7, 0), 16);
        Edges.due("of one again", x.round(6, 1, 7, 0), 8);
        Edges.due("of fifteen", Edges.of(Edges.chain(Edges.BARE) + "touch 1 0;").round(14, 1, 15, 0), 120);
        Edges.says("V", "at a and e, a and 2 e, .. below z those, of all alive then, that became DIRTY (by touch, fork) since the "
            + "last such TICK;");
        Edges.due("at 2", x.round(0, 2, 7, 1), 2);
        Edges.due("at 4, with a fork", x.round(0, 2, 7, 2), 9);
        Edges.due("at 6, without 2, who is not alive then", x.round(0, 2, 7, 3), 0);
        Edges.due("from 1 on at 4", x.round(1, 3, 7, 1), 10);
        Edges.due("a PAGE touched twice", Edges.of(Edges.BARE + "touch 1 0;touch 1 0;lead 1;").round(0, 2, 3, 1), 1);
        Edges.due("touched again", Edges.of(Edges.BARE + "touch 1 0;touch 1 0;lead 1;").round(0, 1, 3, 2), 1);
        FrozenTrees last = Edges.of(Edges.BARE + "fork 1 15;touch 15 0;touch 15 7;touch 1 0;");
        Edges.due("15's, by fork", last.round(0, 1, 4, 1), 8);
        Edges.due("15's, by touch", last.round(1, 2, 4, 1), 2);
        Edges.says("V", "at z, last, those since then.");
        Edges.due("at 7", x.round(0, 2, 7, 4), 1);
        Edges.due("at 4, z too", x.round(0, 2, 4, 2), 9);
        Edges.due("at 3, less than e", x.round(0, 2, 3, 2), 8);
        Edges.due("at 7, e above", x.round(0, 40, 7, 1), 4);
        Edges.says("V", "ROUND 0, 1, .., the last.");
        Edges.due("no ROUND 5", x.round(0, 2, 7, 5), -1);
        Edges.due("no ROUND 3, though z is a and 2 e", x.round(0, 2, 4, 3), -1);
        Edges.due("no ROUND 2", x.round(0, 40, 7, 2), -1);
        Edges.due("ROUND 7", x.round(0, 1, 7, 7), 1);
        Edges.due("no ROUND 8", x.round(0, 1, 7, 8), -1);
    }

    private static void seen() {
        FrozenTrees x = Edges.of(Edges.BARE + "fork 1 2;exit 2;fork 1 15;");
        Edges.says("VI", "SEEN: a SLOT's row,");
        for (int slot = 0; slot < 4; slot++) {
            Edges.row(x, slot, slot, 0, 1, 0);
            Edges.due("SLOT " + slot, x.plain(slot), 1);
            Edges.row(x, slot, slot, 0, 1, 1);
            Edges.due("otherwise in SLOT " + slot, x.plain(slot), 0);
        }
        Edges.says("VI", "three numbers each: a TICK, a PROCESS, from whom it hangs (0 for 1; -1: it is not alive);");
        long[][] so = {{0, 1, 0}, {3, 1, 0}, {0, 2, -1}, {1, 2, 1}, {2, 2, -1}, {3, 15, 1}, {2, 15, -1}};
        for (long[] three : so) {
            for (int width = 0; width < 4; width++) {
                Edges.row(x, 0, width, three);
                Edges.due("SEEN " + three[0] + " " + three[1] + " " + three[2], x.plain(0), 1);
            }
        }
        long[][] not = {{0, 1, -1}, {0, 1, 1}, {0, 2, 0}, {0, 2, 1}, {1, 2, -1}, {1, 2, 0}, {3, 15, -1}, {3, 15, 15}};
        for (long[] three : not) {
            Edges.row(x, 0, 0, three);
            Edges.due("not SEEN " + three[0] + " " + three[1] + " " + three[2], x.plain(0), 0);
        }
        Edges.row(x, 0, 0, 3, 15, 1, 0, 1, 0, 1, 2, 1);
        Edges.due("in any order", x.plain(0), 1);
        Edges.row(x, 0, 0, 3, 15, 1, 0, 1, 0, 1, 2, -1);
        Edges.due("the last three count", x.plain(0), 0);
        Edges.says("VI", "one EVENT told was left out (as if it were REFUSED; TICKS as told), or none was.");
        Edges.row(x, 0, 0, 2, 2, 1);
        Edges.due("exit was left out", x.which(0), 1);
        Edges.row(x, 0, 0, 1, 2, -1, 3, 15, 1);
        Edges.due("fork was left out, TICK 3 stands", x.which(0), 0);
        Edges.due("none was", x.plain(0), 0);
        Edges.row(x, 0, 0, 3, 15, 1);
        Edges.due("none was, as told", x.plain(0), 1);
        Edges.due("either of two", x.may(0), 2);
    }

    private static void sets() {
        Edges.says("VII", "A set of PROCESSES (bits, PROCESS 1 the lowest) alone does anything (EVENTS whose P is another one are "
            + "left out, acts, too; 1 is in each set): it is worth how many are alive at the last TICK.");
        FrozenTrees x = Edges.of(Edges.BARE + "fork 1 2;fork 2 15;fork 15 3;");
        Edges.due("1 is in the set", x.worth(0), 2);
        Edges.due("1, told", x.worth(1), 2);
        Edges.due("2", x.worth(2), 3);
        Edges.due("15 alone, who is never forked", x.worth(16384), 2);
        Edges.due("2 and 15", x.worth(16386), 4);
        x.does(2, 15, 0, 0);
        x.does(0, 3, 4, 0);
        Edges.due("an act of 15", x.worth(16386), 3);
        Edges.due("an act of 3", x.worth(16386 + 4), 4);
        Edges.due("acts of others", x.worth(2), 3);
    }

    private static void share(String text, int process, int above, int below) {
        FrozenTrees x = Edges.of(Edges.BARE + text);
        Edges.due("share(" + process + ", 0) of " + text, x.share(process, 0), above);
        Edges.due("share(" + process + ", 1) of " + text, x.share(process, 1), below);
    }

    private static void orders() {
        Edges.says("VII", "PROCESSES 2 .. 7 come in an order, each has what the set is worth more by it (below 0, too),");
        share("fork 1 2;fork 2 3;", 2, 1, 1);
        share("fork 1 2;fork 2 3;", 7, 0, 1);
        share("fork 1 7;fork 7 2;", 7, 1, 1);
        share("fork 1 2;exit 2;", 2, -1, 1);
        share("fork 1 7;exit 7;", 7, -1, 1);
        Edges.says("VII", "8 .. 15 in each set;");
        share("fork 1 8;fork 8 2;fork 2 3;", 2, 1, 1);
        share("fork 1 15;fork 15 2;fork 2 3;", 2, 1, 1);
        share("fork 1 2;fork 2 8;exit 8;", 2, 0, 1);
        Edges.says("VII", "each order is as likely: the mean.");
        // 3 gives 1 if it comes behind 2, half of all orders
        share("fork 1 2;fork 2 3;fork 3 4;", 2, 3, 2);
        share("fork 1 2;fork 2 3;fork 3 4;", 3, 1, 2);
        share("fork 1 2;fork 2 3;exit 3;", 3, -1, 2);
        // the last of 2, 3, 4 gives one more: a third each; and of all six: a sixth
        share("fork 1 2;fork 2 3;fork 3 4;fork 4 8;", 4, 1, 3);
        String six = "fork 1 2;fork 2 3;fork 3 4;fork 4 5;fork 5 6;fork 6 7;fork 7 8;";
        share(six, 7, 1, 6);
        // 1 / 5 and 1 / 6; 1 and 1 / 2 and .. and 1 / 6
        share(six, 6, 11, 30);
        share(six, 2, 49, 20);
    }

    private static void gets(FrozenTrees x, int process, int other, int... four) {
        for (int pair = 0; pair < 4; pair++) {
            int y = pair >> 1;
            Edges.due("gets(" + process + ", " + other + ") by " + pair, x.gets(process, other, pair & 1, y), four[pair]);
        }
    }

    private static void game() {
        FrozenTrees x = Edges.of("system law 1 odds 0;fork 1 2;fork 2 3;fork 3 15;");
        Edges.says("VIII", "Each of two PROCESSES (not 1) exits behind all, the first one first, or not (REFUSED, if it is not alive).");
        // by the choices: neither, the first, the other, both
        gets(x, 2, 3, 6, 2, 3, 2);
        gets(x, 3, 2, 3, 2, 3, 2);
        Edges.due("nothing is done by that", x.alive(3), 7 + 16384);
        Edges.due("of one not alive", x.gets(14, 2, 1, 0), 0);
        Edges.due("1 is none of them", x.gets(1, 2, 0, 0), -2);
        FrozenTrees y = Edges.of("system law 1 odds 0;fork 1 2;fork 2 3;");
        y.does(0, 3, 4, 0);
        gets(y, 2, 3, 6, 2, 3, 2);
        Edges.says("VIII", "It GETS 3 for each that hangs from it at the end (over others or not; 0, if it is not alive), if it does "
            + "not exit,");
        Edges.due("two", x.gets(2, 15, 0, 0), 6);
        Edges.due("one at the end", x.gets(2, 15, 0, 1), 3);
        Edges.due("none", x.gets(15, 2, 0, 0), 0);
        Edges.due("it is not alive", x.gets(14, 2, 0, 0), 0);
        Edges.due("all that hang", Edges.of(Edges.chain(Edges.BARE)).gets(2, 15, 0, 0), 39);
        FrozenTrees z = Edges.of("system law 3 odds 0;fork 1 2;fork 2 3;fork 2 4;fork 2 15;");
        Edges.due("those that come to hang from it", z.gets(3, 2, 0, 1), 6);
        // 3 exits, 4 and 5 hang: by LAW 0 from 1; by 1 from 2; by 2 from 2, who leads; by 3 4 from 2 and 5 from 4
        int[] byLaw = {0, 6, 6, 6};
        for (int law = 0; law < 4; law++) {
            FrozenTrees v = Edges.of("system law " + law + " odds 0;fork 1 2;lead 2;fork 2 3;fork 3 4;fork 3 5;");
            Edges.due("by LAW " + law, v.gets(2, 3, 0, 1), byLaw[law]);
            Edges.due("of 4 by LAW " + law, v.gets(4, 3, 0, 1), law == 3 ? 3 : 0);
        }
        Edges.says("VIII", "2, if it does (0, if that is REFUSED);");
        Edges.due("it does", x.gets(15, 2, 1, 0), 2);
        Edges.due("it does, with two below", x.gets(2, 15, 1, 0), 2);
        Edges.due("that is REFUSED", x.gets(14, 15, 1, 0), 0);
        FrozenTrees w = Edges.of(Edges.BARE + "fork 1 2;exit 2;fork 1 3;");
        Edges.due("REFUSED, it was alive", w.gets(2, 3, 1, 1), 0);
        Edges.says("VIII", "the other one likewise.");
        // 2 stays by what it GETS, whether it comes first or second; 15 exits
        Edges.due("the first stays, the other exits", x.rests(2, 15), 4);
        Edges.due("the first exits, the other stays", x.rests(15, 2), 2);
    }

    private static void rest() {
        Edges.says("VIII", "REST: neither GETS more by the other choice alone.");
        FrozenTrees x = Edges.of(Edges.BARE + "fork 1 2;fork 2 3;fork 1 4;");
        Edges.due("2 has 3, who exits; so 2 does", x.rests(2, 3), 8);
        Edges.due("3 exits, so 2 does", x.rests(3, 2), 8);
        Edges.due("none alive: all the same", x.rests(8, 15), 15);
        Edges.due("2 stays, 15 is not alive", x.rests(2, 15), 1 + 4);
        Edges.due("the other way", x.rests(15, 2), 1 + 2);
        Edges.due("both exit", x.rests(3, 4), 8);
        FrozenTrees y = Edges.of("system law 1 odds 0;fork 1 2;fork 2 3;fork 3 4;");
        Edges.due("both stay", y.rests(2, 3), 1);
    }

    private static void fraction(String text, int process, int k, long above, long below) {
        FrozenTrees x = Edges.of(text);
        Edges.due("chance(" + process + ", " + k + ", 0) of " + text, x.chance(process, k, 0), above);
        Edges.due("chance(" + process + ", " + k + ", 1) of " + text, x.chance(process, k, 1), below);
    }

    private static void chance() {
        Edges.says("IX", "CHANCE: each of the last k (0 .. 6) EVENTS (told, of acts) is left out with odds in ten, by itself.");
        String head = "system law 0 odds 3;fork 1 2;exit 2;";
        fraction(head, 2, 0, 0, 1);
        fraction(head, 2, 1, 3, 10);
        fraction(head, 2, 2, 21, 100);
        fraction("system law 0 odds 0;fork 1 2;exit 2;", 2, 2, 0, 1);
        fraction("system law 0 odds 10;fork 1 2;exit 2;", 2, 1, 1, 1);
        fraction("system law 0 odds 10;fork 1 2;exit 2;", 2, 2, 0, 1);
        String six = "lead 1;fork 1 2;fork 2 3;fork 3 4;fork 4 5;fork 5 6;fork 6 7;";
        fraction("system law 0 odds 1;" + six, 7, 6, 531441, 1000000);
        fraction("system law 0 odds 9;" + six, 7, 6, 1, 1000000);
        fraction("system law 0 odds 9;" + six, 2, 5, 1, 1);
        fraction("system law 0 odds 9;" + six, 2, 6, 1, 10);
        FrozenTrees x = Edges.of(head);
        x.does(0, 1, 3, 0);
        Edges.due("an act", x.chance(3, 1, 0), 7);
        Edges.due("the exit is certain then", x.chance(2, 1, 0), 0);
        Edges.says("IX", "FRACTIONS are told in lowest terms (0 / 1).");
        fraction("system law 0 odds 5;fork 1 2;exit 2;", 2, 1, 1, 2);
        fraction("system law 0 odds 5;fork 1 2;exit 2;", 2, 2, 1, 4);
        fraction("system law 0 odds 4;fork 1 2;exit 2;", 2, 2, 6, 25);
        fraction("system law 0 odds 4;fork 1 2;", 15, 1, 0, 1);
        fraction("system law 0 odds 4;fork 1 2;", 1, 1, 1, 1);
        Edges.due("a share of 0", Edges.of(Edges.BARE).share(2, 0), 0);
        Edges.due("a share of 0, below", Edges.of(Edges.BARE).share(2, 1), 1);
        Edges.due("a mean that is whole", Edges.of("system law 0 odds 5;fork 1 2;fork 1 3;").mean(2, 0), 2);
        Edges.due("a mean that is whole, below", Edges.of("system law 0 odds 5;fork 1 2;fork 1 3;").mean(2, 1), 1);
    }

    /** The n-th draw (from 1) of a seed, by numbers without an end. */
    static int draw(long seed, int n) {
        BigInteger x = BigInteger.valueOf(seed);
        for (int i = 0; i < n; i++) {
            x = x.multiply(BigInteger.valueOf(1103515245)).add(BigInteger.valueOf(12345)).mod(BigInteger.TWO.pow(31));
        }
        return x.divide(BigInteger.valueOf(65536)).intValue() % 10;
    }

    /** How many of the first n draws of a seed are below odds. */
    private static int below(long seed, int n, int odds) {
        int count = 0;
        for (int i = 1; i <= n; i++) {
            count += draw(seed, i) < odds ? 1 : 0;
        }
        return count;
    }

    private static void draws() {
        Edges.says("IX", "DRAWS: x becomes (1103515245 x + 12345) modulo 2,147,483,648 (at first it is the seed); a draw: x / 65536, "
            + "cut, modulo 10.");
        // of seed 0 x is 12345, drawn 0; of seed 1 it is 1103527590, drawn 16838 modulo 10, 8
        for (int odds = 0; odds <= 10; odds++) {
            FrozenTrees x = Edges.of("system law 0 odds " + odds + ";lead 1;");
            Edges.due("the first of seed 0 by " + odds, x.drawn(0, 0), odds > 0 ? 1 : 0);
            Edges.due("the first of seed 1 by " + odds, x.drawn(1, 0), odds > 8 ? 1 : 0);
        }
        int[] seeds = {0, 1, 2, 3, 65535, 65536, 1999999999, 2000000000, 1431655765, 894784853};
        for (int odds = 1; odds <= 9; odds++) {
            FrozenTrees x = Edges.of("system law 0 odds " + odds + ";" + "lead 1;".repeat(40));
            for (int seed : seeds) {
                Edges.due("40 of seed " + seed + " by " + odds, x.drawn(seed, 0), below(seed, 40, odds));
            }
        }
        FrozenTrees y = Edges.of("system law 0 odds 5;" + "lead 1;".repeat(40));
        for (int seed = 0; seed < 400; seed++) {
            Edges.due("40 of seed " + seed, y.drawn(seed * 4999999, 0), below(seed * 4999999L, 40, 5));
        }
    }

    private static void runs() {
        Edges.says("IX", "RUN drawn: EVENT by EVENT (told, of acts) a draw: below odds it is left out.");
        // the draws of seed 1: 8 8 3 5 1
        FrozenTrees x = Edges.of("system law 0 odds 8;fork 1 2;fork 1 3;fork 1 4;fork 1 5;");
        x.does(0, 1, 6, 0);
        Edges.due("8 is not below 8", x.drawn(1, 0), 3);
        Edges.due("2 and 3 are forked", x.drawn(1, 1), 3);
        FrozenTrees y = Edges.of("system law 0 odds 2;fork 1 2;fork 1 3;fork 1 4;fork 1 5;");
        Edges.due("none left out", y.drawn(1, 0), 0);
        y.does(0, 1, 6, 0);
        Edges.due("the act is", y.drawn(1, 0), 1);
        Edges.due("five are alive", y.drawn(1, 1), 5);
        Edges.due("no EVENTS, no draws", Edges.of("system law 0 odds 10;").drawn(1, 0), 0);
        // a REFUSED EVENT takes a draw, too: 8 8 3
        Edges.due("a REFUSED EVENT", Edges.of("system law 0 odds 4;fork 2 3;fork 2 4;fork 1 5;").drawn(1, 1), 1);
    }
}
