/** Promises 38 to 41: DIRTY PAGES, pages copied in ROUNDS ahead of the stop. */
final class PageEdges {
    /** EVENTS 0 .. 6: 1 touches 0 and 1, forks 2, touches 2; 2 touches 3, exits; 1 touches 3. */
    private static final String PAGES = Edges.BARE + "touch 1 0;touch 1 1;fork 1 2;touch 1 2;touch 2 3;exit 2;touch 1 3;";

    private PageEdges() {}

    static void test() {
        dirty();
        dirtyNot();
        round();
        roundNot();
        copied();
        pace();
        paceNot();
    }

    private static void dirty() {
        Edges.says(38, "DIRTY PAGES of a PROCESS: those that became so from TICK a on to TICK z (EVENTS a .. z less 1), as bits; all of "
            + "PROCESS 1 at first are not.");
        FrozenTrees x = Edges.of(PAGES);
        Edges.due("1 at first", x.dirty(1, 0, 0), 0);
        Edges.due("EVENT 0", x.dirty(1, 0, 1), 1);
        Edges.due("EVENTS 0, 1", x.dirty(1, 0, 2), 3);
        Edges.due("EVENT 1", x.dirty(1, 1, 2), 2);
        Edges.due("all", x.dirty(1, 0, 7), 15);
        Edges.due("the last EVENT", x.dirty(1, 6, 7), 8);
        Edges.due("no EVENT, at the last TICK", x.dirty(1, 7, 7), 0);
        Edges.due("by fork", x.dirty(2, 2, 3), 255);
        Edges.due("ahead of its fork on", x.dirty(2, 0, 5), 255);
        Edges.due("behind its fork", x.dirty(2, 3, 5), 8);
        Edges.due("behind its touch", x.dirty(2, 5, 5), 0);
        FrozenTrees y = Edges.of(Edges.BARE + "fork 1 15;touch 15 0;touch 15 7;");
        Edges.due("PAGES 0 and 7 of 15", y.dirty(15, 1, 3), 129);
        y.does(9, 1, 4, 0);
        Edges.due("by an act", y.dirty(1, 0, 4), 16);
    }

    private static void dirtyNot() {
        Edges.says(38, "0: it is not alive at z;");
        FrozenTrees x = Edges.of(PAGES);
        Edges.due("not any more", x.dirty(2, 2, 6), 0);
        Edges.due("not yet", x.dirty(2, 0, 2), 0);
        Edges.due("never", x.dirty(15, 0, 7), 0);
        Edges.says(38, "-2: there are none such, z is below a, no SYSTEM.");
        Edges.processes("dirty", p -> x.dirty(p, 0, 7));
        Edges.ticks("dirty from", a -> x.dirty(1, a, 7), 7);
        Edges.ticks("dirty to", z -> x.dirty(1, 0, z), 7);
        Edges.due("z below a", x.dirty(1, 4, 3), -2);
        Edges.due("z below a, not alive", x.dirty(15, 7, 6), -2);
        Edges.without("dirty(1, 0, 0)", y -> y.dirty(1, 0, 0), -2);
    }

    private static void round() {
        Edges.says(39, "PRECOPY (V): PAGES copied in a ROUND.");
        FrozenTrees x = Edges.of(PAGES);
        int[] byTwo = {8, 2, 9, 0, 1, -1};
        for (int r = 0; r < byTwo.length; r++) {
            Edges.due("ROUND " + r + " by 2", x.round(0, 2, 7, r), byTwo[r]);
        }
        Edges.due("of one TICK", x.round(6, 1, 7, 1), 1);
        Edges.due("e 40", x.round(0, 40, 7, 1), 4);
        FrozenTrees y = Edges.of(Edges.BARE + "touch 1 0;".repeat(40));
        for (int i = 0; i < 30; i++) {
            y.does(9, 1, i % 8, 0);
        }
        Edges.due("ROUND 70", y.round(0, 1, 70, 70), 1);
        Edges.due("ROUND 1 at 40", y.round(0, 40, 70, 1), 1);
        Edges.due("ROUND 2 at 70", y.round(0, 40, 70, 2), 8);
        Edges.says(39, "NONE: there is none such;");
        Edges.due("behind the last", x.round(0, 2, 7, 5), FrozenTrees.NONE);
        Edges.due("ROUND 71", y.round(0, 1, 70, 71), FrozenTrees.NONE);
        Edges.due("far behind", x.round(0, 2, 7, Integer.MAX_VALUE), FrozenTrees.NONE);
    }

    private static void roundNot() {
        Edges.says(39, "-2: TICKS are none such, z is not above a, e not 1 .. 40, ROUND below 0, no SYSTEM.");
        FrozenTrees x = Edges.of(PAGES);
        Edges.bounds("round a", a -> x.round(a, 1, 7, 0), 0, 6, -2);
        Edges.bounds("round z", z -> x.round(0, 1, z, 0), 1, 7, -2);
        Edges.bounds("round e", e -> x.round(0, e, 7, 0), 1, 40, -2);
        Edges.due("ROUND -1", x.round(0, 1, 7, -1), -2);
        Edges.due("ROUND far below", x.round(0, 1, 7, Integer.MIN_VALUE), -2);
        Edges.due("z is a", x.round(3, 1, 3, 0), -2);
        Edges.due("z below a", x.round(4, 1, 3, 0), -2);
        Edges.due("no e, no such ROUND", x.round(0, 41, 7, 99), -2);
        Edges.without("round(0, 1, 1, 0)", y -> y.round(0, 1, 1, 0), -2);
    }

    private static void copied() {
        Edges.says(40, "PAGES copied in all ROUNDS.");
        FrozenTrees x = Edges.of(PAGES);
        Edges.due("by 1", x.copied(0, 1, 7), 8 + 1 + 1 + 8 + 1 + 1 + 0 + 1);
        Edges.due("by 2", x.copied(0, 2, 7), 20);
        Edges.due("by 40", x.copied(0, 40, 7), 12);
        Edges.due("of one TICK", x.copied(6, 1, 7), 9);
        Edges.due("none DIRTY", x.copied(5, 1, 6), 16);
        Edges.says(40, "-2 likewise.");
        Edges.bounds("copied a", a -> x.copied(a, 1, 7), 0, 6, -2);
        Edges.bounds("copied z", z -> x.copied(0, 1, z), 1, 7, -2);
        Edges.bounds("copied e", e -> x.copied(0, e, 7), 1, 40, -2);
        Edges.due("z is a", x.copied(7, 1, 7), -2);
        Edges.without("copied(0, 1, 1)", y -> y.copied(0, 1, 1), -2);
    }

    private static int pace(String events, int z) {
        return Edges.of(Edges.BARE + events).pace(0, z);
    }

    private static void pace() {
        Edges.says(41, "The e (1 .. 40) by which fewest are copied in the last ROUND,");
        Edges.due("none in the last, by 1 alone", pace("touch 1 0;lead 1;", 2), 1);
        // by 2 and 1 the last has PAGE 0, which is copied twice; by 3 and more it has two, and fewer are copied in all
        Edges.due("fewest in the last, though more in all", pace("touch 1 0;touch 1 1;touch 1 0;", 3), 2);
        Edges.says(41, "of these by which fewest in all,");
        // the last ROUND has none by 1 and by 3; PAGE 0 is copied three times by 1, once by 3
        Edges.due("fewest by the greater", pace("touch 1 0;touch 1 0;touch 1 0;lead 1;", 4), 3);
        // the last ROUND has none by 1 .. 4; all but 3 copy 2's PAGES at 4
        Edges.due("fewest by the smaller", pace("touch 1 0;lead 1;lead 1;fork 1 2;exit 2;", 5), 3);
        Edges.due("fewest by 2 and 4", pace("touch 1 0;touch 1 0;fork 1 2;exit 2;lead 1;", 5), 4);
        Edges.says(41, "the greatest of several.");
        Edges.due("all the same: 40", pace("lead 1;", 1), 40);
        Edges.due("one EVENT", pace("touch 1 0;", 1), 40);
        Edges.due("from 5 on all the same", pace("lead 1;lead 1;lead 1;lead 1;lead 1;", 5), 40);
        FrozenTrees x = Edges.of(Edges.BARE + "touch 1 0;".repeat(40));
        x.does(1, 1, 0, 0);
        Edges.due("40 is enough", x.pace(0, 41), 40);
        FrozenTrees y = Edges.of(Edges.BARE + "touch 1 0;".repeat(39) + "lead 1;");
        Edges.due("39 of 40", y.pace(0, 40), 39);
        Edges.due("a later start", y.pace(38, 40), 1);
    }

    private static void paceNot() {
        Edges.says(41, "-2: there are none such, z is not above a, no SYSTEM.");
        FrozenTrees x = Edges.of(PAGES);
        Edges.bounds("pace a", a -> x.pace(a, 7), 0, 6, -2);
        Edges.bounds("pace z", z -> x.pace(0, z), 1, 7, -2);
        Edges.due("z is a", x.pace(3, 3), -2);
        Edges.due("z below a", x.pace(4, 3), -2);
        Edges.without("pace(0, 1)", y -> y.pace(0, 1), -2);
    }
}
