/** Promises 42 to 49: an EVENT left out, what was SEEN, another LAW. */
final class LeftOutEdges {
    private static final String TREE = Edges.BARE + "fork 1 2;fork 2 3;exit 2;fork 1 15;";

    private LeftOutEdges() {}

    static void test() {
        spare();
        root();
        may();
        mayOfRows();
        which();
        plain();
        laws();
        wrong();
        by();
        law();
    }

    private static int spare(String events) {
        return Edges.of(Edges.BARE + events).spare();
    }

    private static void spare() {
        Edges.says(42, "The EVENT told, left out, by which most are alive at the last TICK, if more than now, the first of several.");
        Edges.due("by EVENT 1", spare("fork 1 2;exit 2;"), 1);
        Edges.due("by the last of 40", spare("lead 1;".repeat(38) + "fork 1 2;exit 2;"), 39);
        Edges.due("by EVENT 0", spare("fork 1 3;exit 3;fork 1 3;"), 0);
        Edges.due("the first of two", spare("fork 1 2;exit 2;fork 1 3;exit 3;"), 1);
        // the second exit's leaving out lets two live, the first one's one
        Edges.due("by which most are", spare("fork 1 2;exit 2;fork 1 3;exit 3;fork 3 4;"), 3);
        Edges.says(42, "NONE: none;");
        Edges.due("no EVENTS", spare(""), FrozenTrees.NONE);
        Edges.due("as many", spare("lead 1;"), FrozenTrees.NONE);
        Edges.due("fewer", spare("fork 1 2;"), FrozenTrees.NONE);
        FrozenTrees x = Edges.of(Edges.BARE + "fork 1 2;");
        x.does(2, 2, 0, 0);
        Edges.due("an act is not told", x.spare(), FrozenTrees.NONE);
        FrozenTrees y = Edges.of(Edges.BARE + "fork 1 2;exit 2;");
        y.does(0, 2, 3, 0);
        Edges.due("acts are done behind it", y.spare(), 1);
        y.anew();
        y.does(0, 1, 3, 0);
        y.does(2, 2, 0, 0);
        Edges.due("an act undoes it", y.spare(), FrozenTrees.NONE);
        Edges.says(42, "-2: there is no SYSTEM.");
        Edges.without("spare()", z -> z.spare(), -2);
    }

    private static int root(String events) {
        return Edges.of(Edges.BARE + events).root();
    }

    private static void root() {
        Edges.says(43, "The EVENT told, left out, by which most EVENTS more are REFUSED than now (less those that are not any more; it "
            + "counted in neither), if any, the first of several.");
        Edges.due("EVENT 0", root("fork 1 2;touch 2 0;"), 0);
        Edges.due("the first of two", root("open 1 0;open 1 1;close 1 0;close 1 1;"), 0);
        Edges.due("the one by most", root("open 1 0;pipe 1 1 2;close 1 0;write 1 2 1;read 1 1 1;"), 1);
        // without the first lead the second one is REFUSED no more: one less, none more
        Edges.due("less those that are not any more", root("fork 1 2;lead 2;lead 2;"), 0);
        // without the first open the second one is done: one less; without the third the close is REFUSED: one more
        Edges.due("one less, one more", root("lead 1;open 1 0;open 1 0;open 1 1;close 1 1;"), 3);
        // without the PIPE the open is done, the write is REFUSED
        Edges.due("one more and one less", root("pipe 1 0 1;open 1 0;write 1 1 1;"), FrozenTrees.NONE);
        Edges.due("a REFUSED one counted in neither", root("lead 1;lead 1;"), FrozenTrees.NONE);
        Edges.due("a done one counted in neither", root("lead 1;touch 1 0;"), FrozenTrees.NONE);
        FrozenTrees x = Edges.of(Edges.BARE + "fork 1 2;fork 1 3;");
        x.does(9, 3, 0, 0);
        Edges.due("acts are REFUSED, too", x.root(), 1);
        FrozenTrees y = Edges.of(Edges.BARE + "lead 1;");
        y.does(0, 1, 2, 0);
        y.does(9, 2, 0, 0);
        Edges.due("an act is not told", y.root(), FrozenTrees.NONE);
        Edges.due("the last of 40 but one", root("lead 1;".repeat(38) + "fork 1 2;lead 2;"), 38);
        Edges.says(43, "NONE: none; -2 likewise.");
        Edges.due("no EVENTS", root(""), FrozenTrees.NONE);
        Edges.due("none more", root("open 1 0;open 1 0;"), FrozenTrees.NONE);
        Edges.due("fewer", root("open 1 0;open 1 0;open 1 0;"), FrozenTrees.NONE);
        Edges.without("root()", z -> z.root(), -2);
    }

    private static void may() {
        Edges.says(44, "SEEN (VI): how many EVENTS told can have been left out by a SLOT's row (one alone).");
        FrozenTrees x = Edges.of(TREE);
        Edges.row(x, 0, 0, 4, 3, 2);
        Edges.due("the exit", x.may(0), 1);
        Edges.row(x, 0, 0, 4, 3, -1);
        Edges.due("either fork", x.may(0), 2);
        Edges.row(x, 0, 0, 4, 1, 0);
        Edges.due("any", x.may(0), 4);
        Edges.row(x, 0, 0, 4, 15, 1);
        Edges.due("any but the last", x.may(0), 3);
        Edges.row(x, 0, 0, 4, 2, -1, 4, 3, 1, 4, 15, 1);
        Edges.due("none of them, alone", x.may(0), 0);
        Edges.row(x, 0, 0, 4, 15, 15);
        Edges.due("none", x.may(0), 0);
        x.does(2, 15, 0, 0);
        Edges.row(x, 0, 0, 5, 15, 1);
        Edges.due("an act is not told", x.may(0), 0);
        Edges.row(x, 0, 0, 5, 15, -1);
        Edges.due("at an act's TICK", x.may(0), 4);
    }

    private static void mayOfRows() {
        FrozenTrees x = Edges.of(TREE);
        x.row(2, 1, 0);
        Edges.due("an empty row: any", x.may(2), 4);
        Edges.due("an empty row, no EVENTS", mayOfNone(), 0);
        x.row(3, 0, 60);
        for (int i = 0; i < 60; i += 3) {
            x.write(3, i, i % 5);
            x.write(3, i + 1, 1);
        }
        Edges.due("a full row", x.may(3), 4);
        x.write(3, 57, 2);
        x.write(3, 58, 3);
        x.write(3, 59, -1);
        Edges.due("the last of a full row", x.may(3), 2);
    }

    private static int mayOfNone() {
        FrozenTrees x = Edges.of(Edges.BARE);
        x.row(0, 0, 0);
        return x.may(0);
    }

    private static void which() {
        Edges.says(45, "The first of these.");
        FrozenTrees x = Edges.of(TREE);
        Edges.row(x, 0, 0, 4, 3, 2);
        Edges.due("the exit", x.which(0), 2);
        Edges.row(x, 0, 0, 4, 3, -1);
        Edges.due("the first fork", x.which(0), 0);
        Edges.row(x, 0, 0, 4, 15, -1);
        Edges.due("the last", x.which(0), 3);
        Edges.says(45, "NONE: none; -2, -6 likewise.");
        Edges.row(x, 0, 0, 4, 15, 15);
        Edges.due("none", x.which(0), FrozenTrees.NONE);
        x.does(2, 15, 0, 0);
        Edges.row(x, 0, 0, 5, 15, 1);
        Edges.due("an act is not told", x.which(0), FrozenTrees.NONE);
        FrozenTrees none = Edges.of(Edges.BARE);
        none.row(0, 0, 0);
        Edges.due("no EVENTS", none.which(0), FrozenTrees.NONE);
        refuses("which", 1);
    }

    private static void plain() {
        Edges.says(46, "1, if it is as the row tells when none was, else 0.");
        FrozenTrees x = Edges.of(TREE);
        Edges.row(x, 0, 0, 4, 3, 1);
        Edges.due("it is", x.plain(0), 1);
        Edges.row(x, 0, 0, 4, 3, 2);
        Edges.due("it is not", x.plain(0), 0);
        Edges.row(x, 0, 0, 4, 3, 1, 0, 1, 0, 3, 2, -1);
        Edges.due("all of it is", x.plain(0), 1);
        Edges.row(x, 0, 0, 4, 3, 1, 0, 1, 0, 3, 2, 1);
        Edges.due("the last is not", x.plain(0), 0);
        Edges.row(x, 0, 0, 0, 15, 1, 4, 3, 1);
        Edges.due("the first is not", x.plain(0), 0);
        x.row(0, 0, 0);
        Edges.due("an empty row", x.plain(0), 1);
        Edges.says(46, "-2, -6 likewise.");
        refuses("plain", 2);
    }

    private static void laws() {
        Edges.says(47, "LAWS (0 .. 3) by which it is as the row tells, as bits.");
        // 3 exits: 4 and 5, of session 2, hang from 1; from 9; from 2; 4 from 9 and 5 from 4
        FrozenTrees x = Edges.of("system law 2 odds 0;fork 1 2;lead 2;fork 2 9;fork 9 3;fork 3 4;fork 3 5;exit 3;");
        long[][] rows = {{7, 4, 1}, {7, 4, 9}, {7, 4, 2}, {7, 5, 4}, {7, 5, 9}, {7, 4, -1}, {7, 1, 0}};
        int[] want = {1, 2 + 8, 4, 8, 2, 0, 15};
        for (int i = 0; i < rows.length; i++) {
            Edges.row(x, 0, 0, rows[i]);
            Edges.due("4 or 5 from " + rows[i][2], x.laws(0), want[i]);
        }
        x.row(0, 0, 0);
        Edges.due("an empty row", x.laws(0), 15);
        Edges.due("the LAW told stays", x.parent(4, 7), 2);
        Edges.says(47, "-2, -6 likewise.");
        refuses("laws", 3);
    }

    private static int ask(FrozenTrees x, int call, int slot) {
        switch (call) {
            case 0:
                return x.may(slot);
            case 1:
                return x.which(slot);
            case 2:
                return x.plain(slot);
            default:
                return x.laws(slot);
        }
    }

    private static void wrong() {
        Edges.says(44, "-2: there is no such SLOT, no SYSTEM, a number is none such (asked last; PROCESSES 1 .. 15, from whom -1 .. "
            + "15), not three each; -6: it has nothing.");
        refuses("may", 0);
    }

    /** The numbers of a row that are none such, beside such as are at the edge. */
    private static void refuses(String name, int call) {
        FrozenTrees x = Edges.of(TREE);
        Edges.due(name + " of nothing", ask(x, call, 0), -6);
        for (int slot = 0; slot < 4; slot++) {
            x.row(slot, 3, 0);
        }
        Edges.bounds(name + " slot", slot -> ask(x, call, slot), 0, 3, -2);
        int[] notThree = {1, 2, 4, 58, 59};
        for (int n : notThree) {
            x.row(1, 3, n);
            Edges.due(name + " of " + n, ask(x, call, 1), -2);
        }
        long[][] edges = {{0, 1, 0}, {4, 1, 0}, {4, 15, 0}, {4, 1, -1}, {4, 1, 15}};
        for (long[] three : edges) {
            Edges.row(x, 1, 3, three);
            Edges.yes(name + " takes " + three[0] + " " + three[1] + " " + three[2], ask(x, call, 1) >= -1);
        }
        long[][] none = {{-1, 1, 0}, {5, 1, 0}, {4, 0, 0}, {4, 16, 0}, {4, 1, -2}, {4, 1, 16}, {4, -1, 0},
            {1L << 32, 1, 0}, {4, 1 + (1L << 32), 0}, {4, 1, 1L << 32}, {Long.MIN_VALUE, 1, 0}, {Long.MAX_VALUE, 1, 0},
            {4, 1, Long.MIN_VALUE}, {4, 1, 0, 4, 1, 0, 4, 16, 0}};
        for (long[] three : none) {
            Edges.row(x, 1, 3, three);
            Edges.due(name + " of none such", ask(x, call, 1), -2);
        }
        // what does not hold is no -2; a number that is none such is, even behind what does not hold
        Edges.row(x, 1, 3, 4, 1, 7, 4, 1, 16);
        Edges.due(name + " of none such behind", ask(x, call, 1), -2);
        Edges.row(x, 1, 0, 4, 1, 7, 4, 1, 15);
        Edges.yes(name + " of what does not hold", ask(x, call, 1) >= -1);
        x.does(9, 1, 0, 0);
        Edges.row(x, 1, 3, 5, 1, 0);
        Edges.yes(name + " at an act's TICK", ask(x, call, 1) >= -1);
        x.undo();
        Edges.due(name + " at a TICK taken back", ask(x, call, 1), -2);
        Edges.without(name + " of nothing", y -> ask(y, call, 0), -2);
        Edges.without(name + " of a row", y -> y.row(0, 0, 0) + ask(y, call, 0), -2);
    }

    private static void by() {
        Edges.says(48, "How many can not be RAISED at the last TICK by a LAW in place of the one told.");
        // 6 is of session 2; by 0 and 2 it can be RAISED by a HELPER or from 2, by 1 and 3 it hangs from 4, two leads below
        FrozenTrees x = Edges.of("system law 3 odds 0;fork 1 2;lead 2;fork 2 3;fork 3 4;fork 4 5;fork 5 6;lead 3;lead 4;lead 5;exit 5;");
        int[] want = {0, 1, 0, 1};
        for (int l = 0; l < 4; l++) {
            Edges.due("by " + l, x.by(l), want[l]);
        }
        Edges.due("the LAW told stays", x.lost(10), 32);
        x.does(2, 6, 0, 0);
        Edges.due("at the last TICK, behind an act", x.by(1), 0);
        Edges.due("none of 1 alone", Edges.of(Edges.BARE).by(3), 0);
        Edges.says(48, "-2: there is none such (0 .. 3), no SYSTEM.");
        Edges.bounds("by", x::by, 0, 3, -2);
        Edges.without("by(0)", y -> y.by(0), -2);
    }

    private static void law() {
        Edges.says(49, "The LAW by which fewest can not, the least of several.");
        Edges.due("all the same", Edges.of("system law 3 odds 0;").law(), 0);
        FrozenTrees x = Edges.of("system law 3 odds 0;fork 1 2;lead 2;fork 2 3;fork 3 4;fork 4 5;fork 5 6;lead 3;lead 4;lead 5;exit 5;");
        Edges.due("0 and 2", x.law(), 0);
        FrozenTrees y = Edges.of("system law 0 odds 0;fork 1 2;lead 2;fork 2 3;fork 3 5;fork 5 6;lead 5;exit 3;");
        Edges.dues("by", new int[] {y.by(0), y.by(1), y.by(2), y.by(3)}, 1, 0, 1, 0);
        Edges.due("1 and 3", y.law(), 1);
        Edges.says(49, "-2: there is no SYSTEM.");
        Edges.without("law()", z -> z.law(), -2);
    }
}
