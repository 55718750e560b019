/** Promises 28 to 37: SHAPES that are ALIKE, the plan that raises it. */
final class ShapeEdges {
    /** TICKS 0, 2 are ALIKE, and 1, 3, 4. */
    private static final String TWICE = Edges.BARE + "open 1 0;close 1 0;open 1 0;touch 1 1;";
    /** By LAW 0 15 hangs from 1 at 5, of session 2, and is lost at 6. */
    private static final String PLAN = Edges.BARE + "fork 1 2;lead 2;fork 2 3;fork 3 15;exit 3;exit 2;";

    private ShapeEdges() {}

    static void test() {
        alike();
        same();
        shapes();
        usual();
        how();
        lost();
        steps();
        raised();
        helpers();
        safe();
    }

    /** 40 EVENTS told and 30 acts: FILES opened and closed again and again, two unlike SHAPES. */
    private static FrozenTrees seventy() {
        FrozenTrees x = Edges.of(Edges.BARE + "open 1 0;close 1 0;".repeat(20));
        for (int i = 0; i < 15; i++) {
            x.does(3, 1, 0, 0);
            x.does(6, 1, 0, 0);
        }
        return x;
    }

    private static void alike() {
        Edges.says(28, "1 if two TICKS are ALIKE, else 0.");
        FrozenTrees x = Edges.of(TWICE);
        Edges.due("one TICK", x.alike(0, 0), 1);
        Edges.due("two", x.alike(1, 4), 1);
        Edges.due("the other way", x.alike(4, 1), 1);
        Edges.due("unlike", x.alike(0, 4), 0);
        Edges.due("the last of 70", seventy().alike(0, 70), 1);
        Edges.due("the last but one of 70", seventy().alike(69, 70), 0);
        FrozenTrees most = HandleEdges.most();
        Edges.due("a byte in the last PIPE of as many as there can be", most.alike(69, 70), 0);
        most.undo();
        most.does(9, 15, 0, 0);
        Edges.due("none in it", most.alike(69, 70), 1);
        Edges.says(28, "-2: there are none such, no SYSTEM.");
        Edges.ticks("alike", t -> x.alike(t, 0), 4);
        Edges.ticks("alike to", t -> x.alike(0, t), 4);
        Edges.due("one TICK that is none", x.alike(5, 5), -2);
        Edges.without("alike(0, 0)", y -> y.alike(0, 0), -2);
    }

    private static void same() {
        Edges.says(29, "The first TICK that is ALIKE to one (it, too).");
        FrozenTrees x = Edges.of(TWICE);
        Edges.dues("same", new int[] {x.same(0), x.same(1), x.same(2), x.same(3), x.same(4)}, 0, 1, 0, 1, 1);
        Edges.due("the last of 70", seventy().same(70), 0);
        Edges.due("the last but one of 70", seventy().same(69), 1);
        FrozenTrees y = Edges.of(Edges.chain(Edges.BARE));
        Edges.due("it alone", y.same(14), 14);
        FrozenTrees last = seventy();
        last.undo();
        last.does(3, 1, 7, 0);
        Edges.due("the last of 70 alone", last.same(70), 70);
        again();
        Edges.says(29, "-2: there is none such, no SYSTEM.");
        Edges.ticks("same", x::same, 4);
        Edges.without("same(0)", z -> z.same(0), -2);
    }

    /** Asked anew behind another SYSTEM, an IMAGE gone back to, acts taken back. */
    private static void again() {
        FrozenTrees x = Edges.of(Edges.BARE + "fork 1 2;open 2 0;pipe 2 1 2;");
        x.image(0);
        Edges.due("each its own", x.same(3), 3);
        Edges.told(x, Edges.BARE + "lead 1;lead 1;lead 1;");
        Edges.due("of another SYSTEM", x.same(3), 0);
        x.back(0);
        Edges.due("of the IMAGE", x.same(3), 3);
        x.does(6, 2, 1, 0);
        x.does(6, 2, 2, 0);
        Edges.due("by acts", x.same(5), 2);
        x.anew();
        x.does(9, 1, 0, 0);
        x.does(9, 1, 0, 0);
        Edges.due("by other acts", x.same(5), 3);
        x.undo();
        x.does(2, 2, 0, 0);
        Edges.due("by another act", x.same(5), 0);
    }

    private static void shapes() {
        Edges.says(30, "How many unlike SHAPES there are at all TICKS.");
        Edges.due("of one TICK", Edges.of(Edges.BARE).shapes(), 1);
        FrozenTrees x = Edges.of(TWICE);
        Edges.due("two", x.shapes(), 2);
        x.does(0, 1, 2, 0);
        Edges.due("an act's, too", x.shapes(), 3);
        x.undo();
        Edges.due("taken back", x.shapes(), 2);
        Edges.due("of 71 TICKS", seventy().shapes(), 2);
        FrozenTrees y = Edges.of(Edges.BARE + "pipe 1 0 1;" + "write 1 1 1;".repeat(39));
        for (int i = 0; i < 21; i++) {
            y.does(7, 1, 1, 1);
        }
        // 0, then a PIPE with 0 .. 60 bytes
        Edges.due("62 unlike ones", y.shapes(), 62);
        y.does(7, 1, 1, 1);
        Edges.due("a REFUSED one gives none", y.shapes(), 62);
        Edges.says(30, "-2: there is no SYSTEM.");
        Edges.without("shapes()", z -> z.shapes(), -2);
    }

    private static void usual() {
        Edges.says(31, "The SHAPE that is at most TICKS: the first of these TICKS (of several SHAPES that met first).");
        Edges.due("of one TICK", Edges.of(Edges.BARE).usual(), 0);
        FrozenTrees x = Edges.of(TWICE);
        Edges.due("at 1, 3, 4", x.usual(), 1);
        x.does(6, 1, 0, 0);
        Edges.due("three each: the one met first", x.usual(), 0);
        x.does(9, 1, 0, 0);
        Edges.due("at 0, 2, 5, 6", x.usual(), 0);
        Edges.due("each at one TICK", Edges.of(Edges.chain(Edges.BARE)).usual(), 0);
        Edges.due("at the last two", Edges.of(Edges.BARE + "fork 1 2;fork 1 3;lead 1;").usual(), 2);
        Edges.due("of 71 TICKS", seventy().usual(), 0);
        Edges.says(31, "-2 likewise.");
        Edges.without("usual()", y -> y.usual(), -2);
    }

    private static void how() {
        FrozenTrees x = Edges.of(PLAN);
        Edges.says(32, "HOW (IV) a PROCESS is RAISED at a TICK (PROCESS 1: 1).");
        Edges.due("1 at 0", x.how(1, 0), 1);
        Edges.due("1 at the last", x.how(1, 6), 1);
        Edges.due("2 by 2", x.how(2, 1), 2);
        Edges.due("2 by 1", x.how(2, 2), 1);
        Edges.due("15 by 4", x.how(15, 5), 4);
        Edges.says(32, "0: it cannot be;");
        Edges.due("15 at 6", x.how(15, 6), 0);
        Edges.says(32, "NONE: it is not alive;");
        Edges.due("not yet", x.how(15, 3), FrozenTrees.NONE);
        Edges.due("not any more", x.how(2, 6), FrozenTrees.NONE);
        Edges.due("never", x.how(14, 6), FrozenTrees.NONE);
        Edges.says(32, "-2: there are none such, no SYSTEM.");
        Edges.processes("how", p -> x.how(p, 6));
        Edges.ticks("how", t -> x.how(1, t), 6);
        Edges.without("how(1, 0)", y -> y.how(1, 0), -2);
    }

    private static void lost() {
        Edges.says(33, "Those alive that are never RAISED at a TICK, as bits.");
        FrozenTrees x = Edges.of(PLAN);
        Edges.due("none of one", x.lost(0), 0);
        Edges.due("none", x.lost(5), 0);
        Edges.due("15", x.lost(6), 16384);
        // all but 1 and 2 are of a session that is gone, or hang from such ones
        FrozenTrees y = Edges.of(Edges.chain(Edges.BARE).replace("fork 3 4;", "lead 3;fork 3 4;") + "exit 3;");
        Edges.due("4 .. 15", y.lost(16), 32767 - 7);
        Edges.says(33, "-2: there is none such, no SYSTEM.");
        Edges.ticks("lost", x::lost, 6);
        Edges.without("lost(0)", z -> z.lost(0), -2);
    }

    private static void steps() {
        Edges.says(34, "STEPS (IV) of the plan.");
        FrozenTrees x = Edges.of(PLAN);
        int[] want = {0, 1, 2, 3, 4, 5, 0};
        for (int t = 0; t <= 6; t++) {
            Edges.due("at " + t, x.steps(t), want[t]);
        }
        Edges.says(34, "-2 likewise.");
        Edges.ticks("steps", x::steps, 6);
        Edges.without("steps(0)", y -> y.steps(0), -2);
    }

    private static void raised() {
        Edges.says(35, "The i-th (from 0) to be RAISED.");
        FrozenTrees x = Edges.of(PLAN);
        Edges.due("the first", x.raised(0, 0), 1);
        Edges.due("the last of four", x.raised(3, 4), 15);
        FrozenTrees chain = Edges.of(Edges.chain(Edges.BARE));
        Edges.due("the 15th", chain.raised(14, 14), 15);
        Edges.says(35, "NONE: there are not so many;");
        Edges.due("the second of one", x.raised(1, 0), FrozenTrees.NONE);
        Edges.due("the second, lost", x.raised(1, 6), FrozenTrees.NONE);
        Edges.due("the 16th", chain.raised(15, 14), FrozenTrees.NONE);
        Edges.due("far beyond", x.raised(Integer.MAX_VALUE, 6), FrozenTrees.NONE);
        Edges.says(35, "-2: i is below 0, there is none such, no SYSTEM.");
        Edges.due("i -1", x.raised(-1, 6), -2);
        Edges.due("i far below", x.raised(Integer.MIN_VALUE, 6), -2);
        Edges.ticks("raised", t -> x.raised(0, t), 6);
        Edges.due("no TICK, not so many", x.raised(15, 7), -2);
        Edges.without("raised(0, 0)", y -> y.raised(0, 0), -2);
        Edges.without("raised(1, 0)", y -> y.raised(1, 0), -2);
    }

    private static void helpers() {
        Edges.says(36, "How many HELPERS there are.");
        FrozenTrees x = Edges.of(PLAN);
        Edges.due("none of one", x.helpers(0), 0);
        Edges.due("none", x.helpers(4), 0);
        Edges.due("one", x.helpers(5), 1);
        Edges.due("none, it is lost", x.helpers(6), 0);
        FrozenTrees y = Edges.of(Edges.BARE + "fork 1 15;lead 15;fork 15 2;fork 2 3;fork 2 4;fork 2 5;exit 2;");
        Edges.due("three", y.helpers(7), 3);
        Edges.says(36, "-2: there is none such, no SYSTEM.");
        Edges.ticks("helpers", x::helpers, 6);
        Edges.without("helpers(0)", z -> z.helpers(0), -2);
    }

    private static void safe() {
        Edges.says(37, "The last TICK at which all alive can be RAISED.");
        Edges.due("TICK 0, of none other", Edges.of(Edges.BARE).safe(), 0);
        FrozenTrees x = Edges.of(PLAN);
        Edges.due("the last but one", x.safe(), 5);
        x.does(9, 1, 0, 0);
        Edges.due("5 still", x.safe(), 5);
        x.does(2, 15, 0, 0);
        Edges.due("the last", x.safe(), 8);
        x.undo();
        Edges.due("5 again", x.safe(), 5);
        Edges.says(37, "-2: there is no SYSTEM.");
        Edges.without("safe()", y -> y.safe(), -2);
    }
}
