/** Promises 64 to 66: rows of numbers in SLOTS. */
final class RowEdges {
    private RowEdges() {}

    static void test() {
        row();
        rowNot();
        write();
        writeNot();
        paste();
        pasteOver();
        pasteNot();
        pasteOrder();
    }

    /** A SYSTEM by whose SEEN a row's numbers can be told apart: 1 from 0, 2 from 1, at TICK 1. */
    private static FrozenTrees seeing() {
        return Edges.of(Edges.BARE + "fork 1 2;");
    }

    private static void row() {
        Edges.says(64, "A SLOT (0 .. 3) has a row of n numbers of a WIDTH, all 0 (in place of another one): 0.");
        FrozenTrees x = seeing();
        for (int slot = 0; slot < 4; slot++) {
            Edges.due("of none", x.row(slot, 3 - slot, 0), 0);
            Edges.due("it has no number", x.write(slot, 0, 1), -7);
            Edges.due("of 60", x.row(slot, slot, 60), 0);
            Edges.due("it has 60", x.write(slot, 59, 1), 0);
            Edges.due("of one, in place of it", x.row(slot, slot, 1), 0);
            Edges.due("it has one", x.write(slot, 1, 1), -7);
        }
        // a row of 0 0 0 tells of PROCESS 0; put behind 1 1, it tells that 1 hangs from 0
        for (int width = 0; width < 4; width++) {
            Edges.row(x, 0, width, 7, 7, 7);
            x.row(0, width, 3);
            x.write(0, 1, 1);
            Edges.due("all 0, but the second", x.plain(0), 1);
            x.write(0, 2, 7);
            Edges.due("the third was 0", x.plain(0), 0);
        }
    }

    private static void rowNot() {
        Edges.says(64, "-2: there is no such SLOT or WIDTH (0 .. 3), or n is above 60;");
        FrozenTrees x = seeing();
        Edges.bounds("row slot", slot -> x.row(slot, 0, 1), 0, 3, -2);
        Edges.bounds("row width", width -> x.row(0, width, 1), 0, 3, -2);
        Edges.due("61", x.row(0, 0, 61), -2);
        Edges.due("far above", x.row(0, 0, Integer.MAX_VALUE), -2);
        Edges.due("60", x.row(0, 0, 60), 0);
        Edges.row(x, 1, 1, 1, 2, 1);
        x.row(1, 4, 1);
        x.row(1, 0, 61);
        Edges.due("the row stays", x.plain(1), 1);
        // -2 ahead of -3
        Edges.due("no SLOT, below 0", x.row(4, 0, -1), -2);
        Edges.due("no SLOT -1, below 0", x.row(-1, 0, -1), -2);
        Edges.due("no WIDTH, below 0", x.row(0, 4, -1), -2);
        Edges.says(64, "-3, and the SLOT stays: n is below 0.");
        Edges.due("-1", x.row(1, 0, -1), -3);
        Edges.due("far below", x.row(1, 3, Integer.MIN_VALUE), -3);
        Edges.due("the row stays", x.plain(1), 1);
        Edges.due("nothing stays nothing", x.row(2, 0, -1), -3);
        x.row(2, 0, -1);
        Edges.due("nothing", x.write(2, 0, 0), -6);
    }

    private static void write() {
        Edges.says(65, "Number i of the SLOT's row is v, cut to its WIDTH: 0.");
        FrozenTrees x = seeing();
        // by WIDTH: 1 told as 1 and as many bytes beyond as are cut
        int[] bits = {8, 16, 32};
        for (int width = 0; width < 4; width++) {
            x.row(3, width, 60);
            x.row(0, width, 3);
            Edges.due("the first", x.write(0, 0, 1), 0);
            Edges.due("the second", x.write(0, 1, 2), 0);
            Edges.due("the last of 60", x.write(3, 59, Long.MIN_VALUE), 0);
            Edges.due("the last of three", x.write(0, 2, 1), 0);
            Edges.due("as written", x.plain(0), 1);
            for (int cut = 0; cut < 3; cut++) {
                x.write(0, 2, 1 + (1L << bits[cut]));
                Edges.due(bits[cut] + " bits of WIDTH " + width, x.plain(0), cut >= width ? 1 : -2);
            }
            x.write(0, 1, 3);
            x.write(0, 2, -1);
            Edges.due("-1 of WIDTH " + width, x.plain(0), 1);
            x.write(0, 2, Long.MAX_VALUE);
            Edges.due("the largest of WIDTH " + width, x.plain(0), width < 3 ? 1 : -2);
            x.write(0, 2, Long.MIN_VALUE);
            Edges.due("the least of WIDTH " + width, x.plain(0), width < 3 ? 0 : -2);
        }
        // numbers have a sign: 255, 65,535, 4,294,967,295 are -1; 128 is -128
        for (int width = 0; width < 3; width++) {
            Edges.row(x, 0, width, 1, 3, (1L << bits[width]) - 1);
            Edges.due("-1 by its bits, WIDTH " + width, x.plain(0), 1);
            Edges.row(x, 0, width, 1, 3, 1L << bits[width] - 1);
            Edges.due("below -1 by its bits, WIDTH " + width, x.plain(0), -2);
        }
    }

    private static void writeNot() {
        Edges.says(65, "-2: there is no such SLOT; -6: it has nothing; -7: there is no such number.");
        FrozenTrees x = seeing();
        for (int slot = 0; slot < 4; slot++) {
            Edges.due("nothing in " + slot, x.write(slot, 0, 1), -6);
        }
        Edges.due("nothing, no number", x.write(0, -1, 1), -6);
        Edges.due("nothing, no number 60", x.write(0, 60, 1), -6);
        for (int slot = 0; slot < 4; slot++) {
            x.row(slot, 0, 3);
        }
        Edges.bounds("write slot", slot -> x.write(slot, 0, 0), 0, 3, -2);
        Edges.bounds("write i", i -> x.write(0, i, 0), 0, 2, -7);
        x.row(1, 0, 60);
        Edges.bounds("write i of 60", i -> x.write(1, i, 0), 0, 59, -7);
        x.row(1, 0, 0);
        Edges.due("number 0 of none", x.write(1, 0, 0), -7);
        Edges.due("no SLOT, no number", x.write(4, -1, 0), -2);
    }

    private static void paste() {
        Edges.says(66, "So many numbers of a SLOT's row, from one on, are put to another one's (or its own), from one on,");
        FrozenTrees x = seeing();
        Edges.row(x, 0, 0, 9, 9, 1, 2, 1, 9);
        x.row(3, 0, 3);
        Edges.due("three", x.paste(0, 2, 3, 0, 3), 0);
        Edges.due("2 hangs from 1 at 1", x.plain(3), 1);
        Edges.row(x, 3, 0, 1, 2, 9);
        Edges.due("one", x.paste(0, 2, 3, 2, 1), 0);
        Edges.due("to the last", x.plain(3), 1);
        x.write(0, 2, 7);
        Edges.due("a copy", x.plain(3), 1);
        Edges.due("none", x.paste(0, 0, 3, 0, 0), 0);
        Edges.due("none, from the end to the end", x.paste(0, 6, 3, 3, 0), 0);
        Edges.due("nothing is put by that", x.plain(3), 1);
        // all 60, from the first and to the first
        x.row(1, 3, 60);
        x.row(2, 3, 60);
        Edges.due("all 60", x.paste(1, 0, 2, 0, 60), 0);
        Edges.due("the last of 60 to the first", x.paste(1, 59, 2, 0, 1), 0);
        Edges.due("the first of 60 to the last", x.paste(1, 0, 2, 59, 1), 0);
        // a number of eight bytes, whole
        Edges.row(x, 1, 3, 1, 2, 1 + (1L << 32));
        x.row(2, 3, 3);
        Edges.due("eight bytes", x.paste(1, 0, 2, 0, 3), 0);
        Edges.due("none is cut", x.plain(2), -2);
    }

    private static void pasteOver() {
        Edges.says(66, "as they were: 0.");
        FrozenTrees x = seeing();
        // 1 2 1 moved up by one over itself: 1 1 2 1, not 1 1 1 1
        Edges.row(x, 0, 0, 1, 2, 1, 9);
        Edges.due("up", x.paste(0, 0, 0, 1, 3), 0);
        x.row(1, 0, 3);
        x.paste(0, 1, 1, 0, 3);
        Edges.due("as they were, up", x.plain(1), 1);
        // 9 1 2 1 moved down by one: 1 2 1 1
        Edges.row(x, 0, 0, 9, 1, 2, 1);
        Edges.due("down", x.paste(0, 1, 0, 0, 3), 0);
        x.row(1, 0, 3);
        x.paste(0, 0, 1, 0, 3);
        Edges.due("as they were, down", x.plain(1), 1);
        Edges.due("onto themselves", x.paste(1, 0, 1, 0, 3), 0);
        Edges.due("as they were", x.plain(1), 1);
    }

    private static void pasteNot() {
        FrozenTrees x = seeing();
        Edges.says(66, "-2: there is no such SLOT;");
        for (int slot = 0; slot < 4; slot++) {
            x.row(slot, 0, 3);
        }
        Edges.bounds("paste slot", slot -> x.paste(slot, 0, 1, 0, 1), 0, 3, -2);
        Edges.bounds("paste to", slot -> x.paste(1, 0, slot, 0, 1), 0, 3, -2);
        Edges.says(66, "-6: one has nothing;");
        FrozenTrees y = seeing();
        y.row(1, 0, 3);
        Edges.due("the first", y.paste(0, 0, 1, 0, 1), -6);
        Edges.due("the other", y.paste(1, 0, 0, 0, 1), -6);
        Edges.due("both", y.paste(0, 0, 2, 0, 1), -6);
        Edges.due("its own", y.paste(3, 0, 3, 0, 0), -6);
        Edges.due("none of it", y.paste(0, 0, 1, 0, 0), -6);
        Edges.says(66, "-8: they are not of one WIDTH;");
        for (int a = 0; a < 4; a++) {
            for (int b = 0; b < 4; b++) {
                y.row(2, a, 3);
                y.row(3, b, 3);
                Edges.due("of WIDTH " + a + " to WIDTH " + b, y.paste(2, 0, 3, 0, 3), a == b ? 0 : -8);
            }
        }
        y.row(2, 0, 0);
        Edges.due("none of them", y.paste(2, 0, 3, 0, 0), -8);
    }

    private static void pasteOrder() {
        Edges.says(66, "-7, and nothing happens: some are beyond their rows, or a place or n is below 0.");
        FrozenTrees x = seeing();
        Edges.row(x, 0, 0, 9, 9, 9, 9);
        Edges.row(x, 1, 0, 1, 2, 1);
        int least = Integer.MIN_VALUE;
        int most = Integer.MAX_VALUE;
        int[][] wrong = {{2, 0, 3}, {0, 1, 3}, {4, 0, 1}, {0, 3, 1}, {0, 0, 4}, {0, 0, 5}, {-1, 0, 1}, {0, -1, 1}, {0, 0, -1},
            {-1, 0, 0}, {0, -1, 0}, {1, 1, -1}, {most, 0, 1}, {0, most, 1}, {0, 0, most}, {1, 1, most}, {most, most, most},
            {least, 0, 1}, {0, least, 1}, {0, 0, least}, {most, 0, least}, {5, 0, 0}, {0, 4, 0}, {5, 4, -1}};
        for (int[] w : wrong) {
            Edges.due("paste(0, " + w[0] + ", 1, " + w[1] + ", " + w[2] + ")", x.paste(0, w[0], 1, w[1], w[2]), -7);
            Edges.due("nothing happens", x.plain(1), 1);
        }
        Edges.due("its own, over its end", x.paste(1, 0, 1, 1, 3), -7);
        Edges.due("its own stays", x.plain(1), 1);
        x.row(2, 0, 0);
        Edges.due("an empty row", x.paste(2, 0, 1, 0, 1), -7);
        Edges.due("to an empty row", x.paste(1, 0, 2, 0, 1), -7);
        Edges.due("none of an empty row", x.paste(2, 0, 2, 0, 0), 0);
        // as the sentence has them: -2, -6, -8, -7
        x.row(3, 1, 3);
        Edges.due("no SLOT, and beyond", x.paste(4, 99, 1, 0, 1), -2);
        Edges.due("WIDTH ahead of places", x.paste(1, -1, 3, 99, -1), -8);
        FrozenTrees y = seeing();
        Edges.due("nothing ahead of places", y.paste(0, -1, 1, -1, -1), -6);
        y.row(0, 0, 3);
        Edges.due("nothing to put to, ahead of places", y.paste(0, 9, 1, 9, 9), -6);
    }
}
