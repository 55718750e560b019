/** Promises 50 to 55: what sets are worth, SHARES, the GAME of two, CHANCE. */
final class GameEdges {
    private GameEdges() {}

    static void test() {
        worth();
        share();
        rests();
        gets();
        chance();
        mean();
    }

    private static void worth() {
        Edges.says(50, "What a set of PROCESSES is worth (VII; 0 .. 32,767; PROCESS 1 is in it, told or not).");
        FrozenTrees x = Edges.of(Edges.chain(Edges.BARE));
        Edges.due("none told", x.worth(0), 2);
        Edges.due("1 told", x.worth(1), 2);
        Edges.due("1 and 2", x.worth(3), 3);
        Edges.due("2", x.worth(2), 3);
        Edges.due("all", x.worth(32767), 15);
        Edges.due("all but 1", x.worth(32766), 15);
        Edges.due("all but 15, who does nothing", x.worth(16383), 15);
        Edges.due("all but 14", x.worth(32767 - 8192), 14);
        Edges.due("of no EVENTS", Edges.of(Edges.BARE).worth(32767), 1);
        Edges.says(50, "-2: there is no such set, no SYSTEM.");
        Edges.bounds("worth", x::worth, 0, 32767, -2);
        Edges.without("worth(0)", y -> y.worth(0), -2);
    }

    private static void share() {
        Edges.says(51, "SHARE (VII) of a PROCESS (2 .. 7), above (what 0; below 0, too), below (1).");
        FrozenTrees x = Edges.of(Edges.BARE + "fork 1 2;fork 2 7;fork 7 3;exit 3;");
        // of orders of 2, 7, 3: 2 has 1 for 7; 1 for 3, if 7 came, less 1, if 3 came, too: 1 + 1 / 2 - 1 / 3;
        // 7 has, behind 2, 1 for 3, less 1 if 3 came: 1 / 2 - 1 / 3; 3 has, behind both, -1
        int[][] want = {{2, 7, 6}, {3, -1, 3}, {7, 1, 6}, {4, 0, 1}};
        for (int[] w : want) {
            Edges.due("above of " + w[0], x.share(w[0], 0), w[1]);
            Edges.due("below of " + w[0], x.share(w[0], 1), w[2]);
        }
        x.does(2, 2, 0, 0);
        Edges.due("acts count", x.share(2, 0), 1);
        Edges.says(51, "-1,000: there are none such, no SYSTEM.");
        Edges.bounds("share process", p -> x.share(p, 0), 2, 7, -1000);
        Edges.bounds("share what", what -> x.share(2, what), 0, 1, -1000);
        Edges.without("share(2, 0)", y -> y.share(2, 0), -1000);
        Edges.without("share(2, 1)", y -> y.share(2, 1), -1000);
    }

    private static void rests() {
        Edges.says(52, "GAME (VIII): pairs of choices of two PROCESSES (2 .. 15) at REST, as bits: 1 neither exits, 2 the first one does, "
            + "4 the other one, 8 both.");
        FrozenTrees x = Edges.of("system law 1 odds 0;fork 1 2;fork 2 3;fork 3 14;fork 1 15;");
        Edges.due("neither", x.rests(2, 3), 1);
        Edges.due("the first one does", x.rests(15, 2), 2);
        Edges.due("the other one", x.rests(2, 15), 4);
        Edges.due("both", x.rests(14, 15), 8);
        Edges.due("all four, none is alive", x.rests(12, 13), 15);
        Edges.due("the first one is not alive", x.rests(13, 15), 4 + 8);
        Edges.due("the other one is not", x.rests(15, 13), 2 + 8);
        Edges.says(52, "-2: there are none such, one twice, no SYSTEM.");
        Edges.bounds("rests process", p -> x.rests(p, 3), 2, 15, -2);
        Edges.bounds("rests other", p -> x.rests(3, p), 2, 15, -2);
        Edges.due("1", x.rests(1, 2), -2);
        for (int p = 1; p <= 15; p++) {
            Edges.due(p + " twice", x.rests(p, p), -2);
        }
        Edges.without("rests(2, 3)", y -> y.rests(2, 3), -2);
    }

    private static void gets() {
        Edges.says(53, "What the first of two GETS by the choices (1 it exits, 0 not).");
        FrozenTrees x = Edges.of("system law 1 odds 0;fork 1 2;fork 2 3;fork 3 14;fork 1 15;");
        Edges.due("neither", x.gets(2, 3, 0, 0), 6);
        Edges.due("it exits", x.gets(2, 3, 1, 0), 2);
        Edges.due("the other one does", x.gets(2, 3, 0, 1), 3);
        Edges.due("both", x.gets(2, 3, 1, 1), 2);
        Edges.due("the other way", x.gets(3, 2, 0, 1), 3);
        Edges.due("one not alive", x.gets(13, 2, 1, 1), 0);
        Edges.says(53, "-2: there are none such, one twice, no SYSTEM.");
        Edges.bounds("gets process", p -> x.gets(p, 3, 0, 0), 2, 15, -2);
        Edges.bounds("gets other", p -> x.gets(3, p, 0, 0), 2, 15, -2);
        Edges.bounds("gets x", c -> x.gets(2, 3, c, 0), 0, 1, -2);
        Edges.bounds("gets y", c -> x.gets(2, 3, 0, c), 0, 1, -2);
        for (int p = 1; p <= 15; p++) {
            Edges.due(p + " twice", x.gets(p, p, 0, 0), -2);
        }
        Edges.without("gets(2, 3, 0, 0)", y -> y.gets(2, 3, 0, 0), -2);
    }

    private static void chance() {
        Edges.says(54, "CHANCE (IX): that a PROCESS is alive at the last TICK, above, below.");
        FrozenTrees x = Edges.of("system law 0 odds 3;fork 1 2;lead 2;fork 1 15;exit 2;touch 1 0;touch 1 1;");
        Edges.due("1, above", x.chance(1, 6, 0), 1);
        Edges.due("1, below", x.chance(1, 6, 1), 1);
        Edges.due("15, above", x.chance(15, 6, 0), 7);
        Edges.due("15, below", x.chance(15, 6, 1), 10);
        Edges.due("2, above", x.chance(2, 6, 0), 21);
        Edges.due("2, below", x.chance(2, 6, 1), 100);
        Edges.due("2, certain not", x.chance(2, 2, 0), 0);
        Edges.due("2, certain not, below", x.chance(2, 2, 1), 1);
        Edges.due("of no EVENT", x.chance(15, 0, 0), 1);
        Edges.says(54, "-2: there are none such, no SYSTEM, not so many EVENTS.");
        Edges.bounds("chance process", p -> x.chance(p, 1, 0), 1, 15, -2);
        Edges.bounds("chance k", k -> x.chance(1, k, 0), 0, 6, -2);
        Edges.bounds("chance what", what -> x.chance(1, 1, what), 0, 1, -2);
        x.does(9, 1, 0, 0);
        Edges.due("k 7 of 7", x.chance(1, 7, 0), -2);
        FrozenTrees y = Edges.of("system law 0 odds 3;fork 1 2;");
        Edges.bounds("chance k of one EVENT", k -> y.chance(1, k, 0), 0, 1, -2);
        y.does(9, 1, 0, 0);
        Edges.bounds("chance k with an act", k -> y.chance(1, k, 0), 0, 2, -2);
        Edges.bounds("chance k of no EVENT", k -> Edges.of(Edges.BARE).chance(1, k, 0), 0, 0, -2);
        Edges.without("chance(1, 0, 0)", z -> z.chance(1, 0, 0), -2);
    }

    private static void mean() {
        Edges.says(55, "The mean of how many are, above, below.");
        FrozenTrees x = Edges.of("system law 0 odds 3;fork 1 2;lead 2;fork 1 15;exit 2;touch 1 0;touch 1 1;");
        // 1, and 21 / 100, and 7 / 10
        Edges.due("above", x.mean(6, 0), 191);
        Edges.due("below", x.mean(6, 1), 100);
        Edges.due("of no EVENT, above", x.mean(0, 0), 2);
        Edges.due("of no EVENT, below", x.mean(0, 1), 1);
        FrozenTrees all = Edges.of(Edges.chain(Edges.BARE));
        Edges.due("fifteen", all.mean(6, 0), 15);
        FrozenTrees half = Edges.of(Edges.chain("system law 0 odds 5;"));
        // 9 are certain; then 1 / 2, 1 / 4, .., 1 / 64
        Edges.due("of a chain, above", half.mean(6, 0), 9 * 64 + 63);
        Edges.due("of a chain, below", half.mean(6, 1), 64);
        Edges.says(55, "-2: there are none such, no SYSTEM, not so many EVENTS.");
        Edges.bounds("mean k", k -> x.mean(k, 0), 0, 6, -2);
        Edges.bounds("mean what", what -> x.mean(1, what), 0, 1, -2);
        x.does(9, 1, 0, 0);
        Edges.due("k 7 of 7", x.mean(7, 0), -2);
        FrozenTrees y = Edges.of("system law 0 odds 3;fork 1 2;");
        Edges.bounds("mean k of one EVENT", k -> y.mean(k, 0), 0, 1, -2);
        Edges.bounds("mean k of no EVENT", k -> Edges.of(Edges.BARE).mean(k, 0), 0, 0, -2);
        Edges.without("mean(0, 0)", z -> z.mean(0, 0), -2);
    }
}
