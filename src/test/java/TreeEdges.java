/** Promises 9 to 18: who is alive at a TICK, who hangs from whom, sessions, births and ends. */
final class TreeEdges {
    /** By LAW 0: 2 leads, 3 and 15 below it; 3 exits, and 15 hangs from 1: five EVENTS. */
    private static final String TREE = Edges.BARE + "fork 1 2;lead 2;fork 2 3;fork 3 15;exit 3;";

    private TreeEdges() {}

    static void test() {
        alive();
        parent();
        session();
        kids();
        under();
        depth();
        members();
        sessions();
        born();
        died();
    }

    private static void alive() {
        Edges.says(9, "PROCESSES alive at a TICK, as bits (PROCESS 1 the lowest).");
        FrozenTrees x = Edges.of(TREE);
        Edges.due("at 0", x.alive(0), 1);
        Edges.due("at 4", x.alive(4), 7 + 16384);
        Edges.due("at the last", x.alive(5), 3 + 16384);
        Edges.due("all fifteen", Edges.of(Edges.chain(Edges.BARE)).alive(14), 32767);
        Edges.says(9, "-2 likewise.");
        Edges.ticks("alive", x::alive, 5);
        Edges.without("alive(0)", y -> y.alive(0), -2);
    }

    private static void parent() {
        Edges.says(10, "From whom a PROCESS hangs at a TICK.");
        FrozenTrees x = Edges.of(TREE);
        Edges.due("1, at 0", x.parent(1, 0), 0);
        Edges.due("1, at the last", x.parent(1, 5), 0);
        Edges.due("15, at 4", x.parent(15, 4), 3);
        Edges.due("15, at 5", x.parent(15, 5), 1);
        Edges.says(10, "NONE: it is not alive;");
        Edges.due("not yet", x.parent(15, 3), FrozenTrees.NONE);
        Edges.due("not any more", x.parent(3, 5), FrozenTrees.NONE);
        Edges.due("never", x.parent(14, 5), FrozenTrees.NONE);
        Edges.says(10, "-2: there are none such, no SYSTEM.");
        Edges.processes("parent", p -> x.parent(p, 5));
        Edges.ticks("parent", t -> x.parent(1, t), 5);
        Edges.due("not alive, at no TICK", x.parent(14, 6), -2);
        Edges.without("parent(1, 0)", y -> y.parent(1, 0), -2);
    }

    private static void session() {
        Edges.says(11, "Its session.");
        FrozenTrees x = Edges.of(TREE);
        Edges.due("1's", x.session(1, 0), 1);
        Edges.due("2's", x.session(2, 1), 1);
        Edges.due("2's, that leads", x.session(2, 2), 2);
        Edges.due("15's", x.session(15, 5), 2);
        Edges.says(11, "NONE, -2 likewise.");
        Edges.due("not yet", x.session(15, 3), FrozenTrees.NONE);
        Edges.due("not any more", x.session(3, 5), FrozenTrees.NONE);
        Edges.processes("session", p -> x.session(p, 5));
        Edges.ticks("session", t -> x.session(1, t), 5);
        Edges.without("session(1, 0)", y -> y.session(1, 0), -2);
    }

    private static void kids() {
        Edges.says(12, "Those that hang from it (not over others), as bits.");
        FrozenTrees x = Edges.of(TREE);
        Edges.due("none of 1 at 0", x.kids(1, 0), 0);
        Edges.due("1's at 4", x.kids(1, 4), 2);
        Edges.due("3's at 4", x.kids(3, 4), 16384);
        Edges.due("1's at 5", x.kids(1, 5), 2 + 16384);
        Edges.due("15's", x.kids(15, 5), 0);
        Edges.says(12, "-2 likewise (0, if it is not alive).");
        Edges.due("not any more", x.kids(3, 5), 0);
        Edges.due("never", x.kids(14, 5), 0);
        Edges.processes("kids", p -> x.kids(p, 5));
        Edges.ticks("kids", t -> x.kids(1, t), 5);
        Edges.without("kids(1, 0)", y -> y.kids(1, 0), -2);
    }

    private static void under() {
        Edges.says(13, "How many hang from it, over others or not.");
        FrozenTrees x = Edges.of(TREE);
        Edges.due("of 1 alone", x.under(1, 0), 0);
        Edges.due("of 1", x.under(1, 4), 3);
        Edges.due("of 2", x.under(2, 4), 2);
        Edges.due("of 3", x.under(3, 4), 1);
        Edges.due("of 15", x.under(15, 4), 0);
        Edges.due("of 2 then", x.under(2, 5), 0);
        FrozenTrees chain = Edges.of(Edges.chain(Edges.BARE));
        Edges.due("fourteen", chain.under(1, 14), 14);
        Edges.due("of the last but one", chain.under(14, 14), 1);
        Edges.says(13, "-2 likewise.");
        Edges.due("of one not alive", x.under(3, 5), 0);
        Edges.processes("under", p -> x.under(p, 5));
        Edges.ticks("under", t -> x.under(1, t), 5);
        Edges.without("under(1, 0)", y -> y.under(1, 0), -2);
    }

    private static void depth() {
        Edges.says(14, "How many steps it is from it up to 0.");
        FrozenTrees x = Edges.of(TREE);
        Edges.due("from 1", x.depth(1, 0), 1);
        Edges.due("from 15 at 4", x.depth(15, 4), 4);
        Edges.due("from 15 at 5", x.depth(15, 5), 2);
        Edges.due("from the last of fifteen", Edges.of(Edges.chain(Edges.BARE)).depth(15, 14), 15);
        Edges.says(14, "NONE, -2 as parent().");
        Edges.due("not yet", x.depth(15, 3), FrozenTrees.NONE);
        Edges.due("not any more", x.depth(3, 5), FrozenTrees.NONE);
        Edges.processes("depth", p -> x.depth(p, 5));
        Edges.ticks("depth", t -> x.depth(1, t), 5);
        Edges.without("depth(1, 0)", y -> y.depth(1, 0), -2);
    }

    private static void members() {
        Edges.says(15, "PROCESSES alive of a session (1 .. 15), as bits.");
        FrozenTrees x = Edges.of(TREE);
        Edges.due("of 1 at 0", x.members(1, 0), 1);
        Edges.due("of 1 at 1", x.members(1, 1), 3);
        Edges.due("of 1 at 2", x.members(1, 2), 1);
        Edges.due("of 2 at 4", x.members(2, 4), 2 + 4 + 16384);
        Edges.due("of 2 at 5", x.members(2, 5), 2 + 16384);
        Edges.due("of one that nobody leads", x.members(15, 5), 0);
        x.does(1, 15, 0, 0);
        Edges.due("of 15", x.members(15, 6), 16384);
        Edges.due("a leader gone", Edges.of(Edges.BARE + "fork 1 2;lead 2;fork 2 3;exit 2;").members(2, 4), 4);
        Edges.says(15, "-2: there are none such, no SYSTEM.");
        Edges.processes("members", s -> x.members(s, 5));
        Edges.ticks("members", t -> x.members(1, t), 6);
        Edges.without("members(1, 0)", y -> y.members(1, 0), -2);
    }

    private static void sessions() {
        Edges.says(16, "How many sessions have some one alive at a TICK.");
        FrozenTrees x = Edges.of(TREE);
        Edges.due("at 0", x.sessions(0), 1);
        Edges.due("at 1", x.sessions(1), 1);
        Edges.due("at 2", x.sessions(2), 2);
        Edges.due("at 5", x.sessions(5), 2);
        FrozenTrees y = Edges.of(Edges.BARE + "fork 1 2;lead 2;fork 2 3;exit 2;exit 3;");
        Edges.due("its leader is gone", y.sessions(4), 2);
        Edges.due("nobody is alive", y.sessions(5), 1);
        StringBuilder all = new StringBuilder(Edges.chain(Edges.BARE));
        for (int p = 2; p <= 15; p++) {
            all.append("lead ").append(p).append(';');
        }
        Edges.due("fifteen", Edges.of(all.toString()).sessions(28), 15);
        Edges.says(16, "-2: there is none such, no SYSTEM.");
        Edges.ticks("sessions", x::sessions, 5);
        Edges.without("sessions(0)", z -> z.sessions(0), -2);
    }

    private static void born() {
        Edges.says(17, "TICK at which a PROCESS is alive first.");
        FrozenTrees x = Edges.of(TREE);
        Edges.due("1", x.born(1), 0);
        Edges.due("2", x.born(2), 1);
        Edges.due("3, that is not alive any more", x.born(3), 3);
        Edges.due("15", x.born(15), 4);
        x.does(0, 1, 9, 0);
        Edges.due("by an act, at the last TICK", x.born(9), 6);
        Edges.says(17, "NONE: at none;");
        Edges.due("never forked", x.born(14), FrozenTrees.NONE);
        Edges.due("its fork is REFUSED", Edges.of(Edges.BARE + "fork 2 3;").born(3), FrozenTrees.NONE);
        Edges.says(17, "-2: there is no such PROCESS, no SYSTEM.");
        Edges.processes("born", x::born);
        Edges.without("born(1)", y -> y.born(1), -2);
    }

    private static void died() {
        Edges.says(18, "TICK at which it is not alive any more.");
        FrozenTrees x = Edges.of(TREE);
        Edges.due("3", x.died(3), 5);
        x.does(2, 15, 0, 0);
        Edges.due("by an act, at the last TICK", x.died(15), 6);
        Edges.due("right behind its birth", Edges.of(Edges.BARE + "fork 1 2;exit 2;").died(2), 2);
        Edges.says(18, "NONE: it is to the end, or never was; -2 likewise.");
        Edges.due("1", x.died(1), FrozenTrees.NONE);
        Edges.due("2", x.died(2), FrozenTrees.NONE);
        Edges.due("never was", x.died(14), FrozenTrees.NONE);
        Edges.due("1's exit is REFUSED", Edges.of(Edges.BARE + "exit 1;").died(1), FrozenTrees.NONE);
        Edges.processes("died", x::died);
        Edges.without("died(1)", y -> y.died(1), -2);
    }
}
