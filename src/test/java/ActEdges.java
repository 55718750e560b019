/** Promises 56 to 63: acts, RUNS drawn, counts, IMAGES. */
final class ActEdges {
    /** The least and the most of p, h, g of each kind, 0 for those that it has not. */
    private static final int[][] LEAST = {
        {1, 1, 0}, {1, 0, 0}, {1, 0, 0}, {1, 0, 0}, {1, 0, 0}, {1, 0, 0}, {1, 0, 0}, {1, 0, 1}, {1, 0, 1}, {1, 0, 0}};
    private static final int[][] MOST = {{15, 15, 0}, {15, 0, 0}, {15, 0, 0}, {15, 7, 0}, {15, 7, 7}, {15, 7, 7}, {15, 7, 0},
        {15, 7, 30}, {15, 7, 30}, {15, 7, 0}};

    private ActEdges() {}

    static void test() {
        does();
        doesWrong();
        doesSpent();
        undo();
        anew();
        drawn();
        luck();
        count();
        image();
        back();
    }

    private static void does() {
        Edges.says(56, "An EVENT more, behind all, of a kind (0 .. 9), its numbers in their order p, h, g (0 for those it has not): why it "
            + "is REFUSED, or 0.");
        FrozenTrees x = Edges.of(Edges.BARE + "fork 1 2;");
        Edges.due("done", x.does(0, 2, 15, 0), 0);
        Edges.due("behind all", x.alive(2), 3 + 16384);
        Edges.due("REFUSED by 1", x.does(9, 3, 0, 0), 1);
        Edges.due("REFUSED by 2", x.does(2, 1, 0, 0), 2);
        Edges.due("REFUSED by 3", x.does(6, 1, 0, 0), 3);
        Edges.due("a PIPE, H and G", x.does(4, 1, 7, 0), 0);
        Edges.due("H is the READ END", x.kind(x.object(1, 7, 6), 6), 1);
        Edges.due("REFUSED by 4", x.does(7, 1, 7, 1), 4);
        Edges.due("REFUSED by 5", x.does(8, 1, 7, 1), 5);
        Edges.due("30 bytes", x.does(7, 1, 0, 30), 0);
        Edges.due("60 bytes", x.does(7, 1, 0, 30), 0);
        Edges.due("REFUSED by 6", x.does(7, 1, 0, 1), 6);
        Edges.due("REFUSED ones are acts, too", x.count(3), 10);
        Edges.due("and TICKS", x.refusals(11), 6);
        Edges.due("told ones stay", x.count(2), 1);
        Edges.due("LINES stay", x.count(4), 2);
    }

    private static long fits(FrozenTrees x, int kind, int which, int number) {
        int[] numbers = MOST[kind].clone();
        numbers[which] = number;
        int answer = x.does(kind, numbers[0], numbers[1], numbers[2]);
        x.anew();
        return answer;
    }

    private static void doesWrong() {
        Edges.says(56, "-2: there are none such (numbers in their bounds), no SYSTEM;");
        for (int kind = 0; kind < 10; kind++) {
            FrozenTrees x = Edges.of(Edges.BARE);
            for (int which = 0; which < 3; which++) {
                int k = kind;
                int w = which;
                String name = "does of kind " + kind + ", number " + which;
                Edges.bounds(name, n -> fits(x, k, w, n), LEAST[kind][which], MOST[kind][which], -2);
            }
        }
        FrozenTrees x = Edges.of(Edges.BARE);
        Edges.bounds("kind", kind -> x.does(kind, 1, kind == 0 ? 2 : 0, 0), 0, 9, -2);
        Edges.due("numbers of none, kind 10", x.does(10, 0, 0, 0), -2);
        Edges.due("numbers of none, kind -1", x.does(-1, 0, 0, 0), -2);
        Edges.due("wrong ones are no acts", x.count(3), 2);
        Edges.without("does(9, 1, 0, 0)", y -> y.does(9, 1, 0, 0), -2);
    }

    private static void doesSpent() {
        Edges.says(56, "-5: there were 30 acts.");
        FrozenTrees x = Edges.of(Edges.BARE + "lead 1;".repeat(40));
        for (int i = 0; i < 29; i++) {
            x.does(9, 1, 0, 0);
        }
        Edges.due("the 30th", x.does(0, 1, 2, 0), 0);
        Edges.due("the 31st", x.does(0, 1, 3, 0), -5);
        Edges.due("30 stand", x.count(3), 30);
        Edges.due("the last TICK", x.alive(70), 3);
        Edges.due("no TICK more", x.alive(71), -2);
        x.undo();
        Edges.due("room for one", x.does(0, 1, 3, 0), 0);
        Edges.due("it stands in the other's place", x.alive(70), 5);
        Edges.due("the 31st again", x.does(9, 1, 0, 0), -5);
        x.anew();
        Edges.due("room for all", x.does(9, 1, 0, 0), 0);
    }

    private static void undo() {
        Edges.says(57, "The latest act is taken back: how many there are.");
        FrozenTrees x = Edges.of(Edges.BARE + "fork 1 2;");
        x.does(0, 1, 3, 0);
        x.does(2, 2, 0, 0);
        Edges.due("one is left", x.undo(), 1);
        Edges.due("2 is alive", x.alive(2), 7);
        Edges.due("TICK 3 is none", x.alive(3), -2);
        Edges.due("none is left", x.undo(), 0);
        Edges.due("told ones stay", x.alive(1), 3);
        Edges.due("3 was never forked", x.does(0, 2, 3, 0), 0);
        x.does(9, 9, 0, 0);
        Edges.due("a REFUSED one is taken back", x.undo(), 1);
        Edges.says(57, "-2: there is no SYSTEM; -5: there is none.");
        x.undo();
        Edges.due("none", x.undo(), -5);
        Edges.due("none, of no EVENTS", Edges.of(Edges.BARE).undo(), -5);
        Edges.due("EVENTS told are no acts", x.count(2), 1);
        Edges.without("undo()", y -> y.undo(), -2);
    }

    private static void anew() {
        Edges.says(58, "All are: how many there were.");
        FrozenTrees x = Edges.of(Edges.BARE + "fork 1 2;");
        Edges.due("none were", x.anew(), 0);
        x.does(0, 1, 3, 0);
        Edges.due("one was", x.anew(), 1);
        Edges.due("none are", x.count(3), 0);
        for (int i = 0; i < 30; i++) {
            x.does(9, 1, 0, 0);
        }
        Edges.due("thirty were", x.anew(), 30);
        Edges.due("as told", x.alive(1), 3);
        Edges.due("TICK 2 is none", x.alive(2), -2);
        Edges.says(58, "-2 likewise.");
        Edges.without("anew()", y -> y.anew(), -2);
    }

    private static void drawn() {
        Edges.says(59, "RUN drawn (IX) from a seed (0 .. 2,000,000,000), what 0: how many EVENTS are left out, 1: how many are alive at "
            + "the last TICK.");
        // the draws of seed 1: 8 8 3 5 1
        FrozenTrees x = Edges.of("system law 0 odds 5;fork 1 2;fork 1 3;fork 1 4;fork 1 5;fork 1 6;");
        Edges.due("left out", x.drawn(1, 0), 2);
        Edges.due("alive", x.drawn(1, 1), 4);
        Edges.due("nothing is done by that", x.alive(5), 63);
        for (int seed = 0; seed < 50; seed++) {
            int out = 0;
            for (int i = 1; i <= 5; i++) {
                out += TermEdges.draw(seed, i) < 5 ? 1 : 0;
            }
            Edges.due("left out of seed " + seed, x.drawn(seed, 0), out);
            Edges.due("alive of seed " + seed, x.drawn(seed, 1), 6 - out);
        }
        FrozenTrees ever = Edges.of("system law 0 odds 10;" + "fork 1 2;".repeat(40));
        for (int i = 0; i < 30; i++) {
            ever.does(9, 1, 0, 0);
        }
        Edges.due("all of 70", ever.drawn(7, 0), 70);
        Edges.due("1 alone", ever.drawn(7, 1), 1);
        FrozenTrees never = Edges.of(Edges.chain(Edges.BARE));
        Edges.due("none left out", never.drawn(7, 0), 0);
        Edges.due("all alive", never.drawn(7, 1), 15);
        Edges.says(59, "-2: there are none such, no SYSTEM.");
        Edges.bounds("drawn seed", seed -> x.drawn(seed, 0), 0, 2000000000, -2);
        Edges.bounds("drawn what", what -> x.drawn(1, what), 0, 1, -2);
        Edges.without("drawn(0, 0)", y -> y.drawn(0, 0), -2);
    }

    private static void luck() {
        Edges.says(60, "Of n (1 .. 20) such from seeds, the seed and 1, .., in how many a PROCESS is alive at the last TICK.");
        // 2 and 15 are alive, if the first and the second draw are not below odds
        FrozenTrees x = Edges.of("system law 0 odds 5;fork 1 2;fork 1 15;");
        int[] seeds = {0, 1, 7, 1999999981, 2000000000};
        for (int seed : seeds) {
            int two = 0;
            int fifteen = 0;
            for (int n = 1; n <= 20; n++) {
                two += TermEdges.draw((long) seed + n - 1, 1) < 5 ? 0 : 1;
                fifteen += TermEdges.draw((long) seed + n - 1, 2) < 5 ? 0 : 1;
                Edges.due("2, of " + n + " from " + seed, x.luck(seed, n, 2), two);
                Edges.due("15, of " + n + " from " + seed, x.luck(seed, n, 15), fifteen);
            }
        }
        FrozenTrees y = Edges.of("system law 0 odds 1;fork 1 2;");
        Edges.due("seed 0 draws 0: left out", y.luck(0, 1, 2), 0);
        Edges.due("seed 1 draws 8: not", y.luck(0, 2, 2), 1);
        Edges.due("1 is ever alive", y.luck(0, 20, 1), 20);
        Edges.due("15 never was", y.luck(0, 20, 15), 0);
        FrozenTrees all = Edges.of(Edges.BARE + "fork 1 2;");
        // seeds beyond 2,000,000,000 are reckoned on: only the first one is asked about
        Edges.due("from the largest seed on", all.luck(2000000000, 20, 2), 20);
        Edges.says(60, "-2: there are none such, no SYSTEM.");
        Edges.bounds("luck seed", seed -> y.luck(seed, 1, 1), 0, 2000000000, -2);
        Edges.bounds("luck n", n -> y.luck(0, n, 1), 1, 20, -2);
        Edges.processes("luck", p -> y.luck(0, 1, p));
        Edges.without("luck(0, 1, 1)", z -> z.luck(0, 1, 1), -2);
    }

    private static void count() {
        Edges.says(61, "0 LAW, 1 odds, 2 EVENTS told, 3 acts, 4 LINES, 5 bytes of the TAPE, 6 SLOTS that have a row.");
        FrozenTrees x = new FrozenTrees();
        Edges.dues("count of a new object", counts(x), 0, 0, 0, 0, 0, 0, 0);
        Edges.told(x, "system law 3 odds 10;" + "lead 1;".repeat(40));
        for (int i = 0; i < 30; i++) {
            x.does(1, 1, 0, 0);
        }
        x.feed(0, 0, 0, 0, 0);
        for (int slot = 0; slot < 4; slot++) {
            x.row(slot, slot, slot == 2 ? 60 : 0);
        }
        Edges.dues("count of the most", counts(x), 3, 10, 40, 30, 41, 20, 4);
        x.row(0, 0, 5);
        Edges.due("a row in place of another", x.count(6), 4);
        x.end(0);
        x.system();
        Edges.dues("count without a SYSTEM, with rows", counts(x), 0, 0, 0, 0, 0, 0, 4);
        FrozenTrees y = Edges.of("system law 1 odds 2;lead 1;");
        y.row(3, 0, 0);
        y.row(2, 0, -1);
        y.row(1, 0, 61);
        Edges.dues("count of some", counts(y), 1, 2, 1, 0, 2, 0, 1);
        Edges.says(61, "NONE for others.");
        Edges.bounds("count", y::count, 0, 6, FrozenTrees.NONE);
    }

    private static int[] counts(FrozenTrees x) {
        int[] all = new int[7];
        for (int what = 0; what < 7; what++) {
            all[what] = x.count(what);
        }
        return all;
    }

    private static void image() {
        Edges.says(62, "IMAGE k (0 .. 2) keeps the SYSTEM, and acts: 0.");
        FrozenTrees x = Edges.of("system law 3 odds 7;fork 1 2;" + "lead 1;".repeat(39));
        for (int i = 0; i < 30; i++) {
            x.does(0, 1, 3, 0);
        }
        for (int k = 0; k < 3; k++) {
            Edges.due("image(" + k + ")", x.image(k), 0);
            x.undo();
        }
        Edges.told(x, Edges.BARE + "fork 1 9;");
        Edges.due("over a kept one", x.image(1), 0);
        x.does(0, 1, 10, 0);
        for (int k = 0; k < 3; k++) {
            Edges.due("back(" + k + ")", x.back(k), 0);
            Edges.dues("count of IMAGE " + k, counts(x), k == 1 ? 0 : 3, k == 1 ? 0 : 7, k == 1 ? 1 : 40,
                k == 1 ? 0 : 30 - k, k == 1 ? 2 : 41, 0, 0);
            Edges.due("alive in IMAGE " + k, x.alive(x.count(2) + x.count(3)), k == 1 ? 257 : 7);
        }
        Edges.says(62, "-2: no such k.");
        Edges.bounds("image", x::image, 0, 2, -2);
        Edges.due("without a SYSTEM", new FrozenTrees().image(3), -2);
        Edges.due("of none", new FrozenTrees().image(0), 0);
    }

    private static void back() {
        Edges.says(63, "It is as IMAGE k has it: 0.");
        FrozenTrees x = Edges.of("system law 1 odds 4;fork 1 2;fork 2 3;");
        x.does(0, 3, 4, 0);
        x.image(2);
        x.does(2, 2, 0, 0);
        Edges.due("3 hangs from 1 now", x.parent(3, 4), 1);
        x.row(1, 0, 3);
        x.feed(0, 0, 0, 0, 0);
        Edges.due("back", x.back(2), 0);
        Edges.dues("count, the TAPE's and the rows' as they are", counts(x), 1, 4, 2, 1, 3, 20, 1);
        Edges.due("3 hangs from 2", x.parent(3, 3), 2);
        Edges.due("no TICK 4", x.alive(4), -2);
        x.anew();
        Edges.due("the IMAGE has its acts still", x.back(2), 0);
        Edges.due("one", x.count(3), 1);
        Edges.due("acts go on", x.does(2, 4, 0, 0), 0);
        Edges.due("taken back one by one", x.undo(), 1);
        Edges.due("and the IMAGE's", x.undo(), 0);
        FrozenTrees none = new FrozenTrees();
        none.image(0);
        Edges.told(none, Edges.BARE);
        Edges.due("back to no SYSTEM", none.back(0), 0);
        Edges.due("there is none", none.alive(0), -2);
        Edges.says(63, "-2: no such k; -6: it has nothing.");
        Edges.bounds("back", x::back, 0, 2, -2);
        Edges.due("IMAGE 0 has nothing", x.back(0), -6);
        Edges.due("IMAGE 1 has nothing", x.back(1), -6);
        Edges.due("all stays", x.alive(2), 7);
        Edges.due("IMAGE 2 of a new object", new FrozenTrees().back(2), -6);
    }
}
