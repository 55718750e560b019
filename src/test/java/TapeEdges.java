/** Promises 1 to 8: a new object, the TAPE, the SYSTEM, its FAULTS, its EVENTS. */
final class TapeEdges {
    /** s y s t | e m _ l | a w _ 3 | _ o d d | s _ 7 ; */
    private static final int[] SIGNS = {0x73797374, 0x656D206C, 0x61772033, 0x206F6464, 0x7320373B};

    private TapeEdges() {}

    static void test() {
        newObject();
        feed();
        feedBeyond();
        end();
        system();
        systemNone();
        systemFault();
        fault();
        event();
        refused();
        refusals();
    }

    private static void newObject() {
        Edges.says(1, "No SYSTEM.");
        FrozenTrees x = new FrozenTrees();
        Edges.due("LINES", x.count(4), 0);
        Edges.due("EVENTS told", x.count(2), 0);
        Edges.due("acts", x.count(3), 0);
        Edges.due("the TAPE", x.count(5), 0);
        Edges.due("rows", x.count(6), 0);
        Edges.due("no TICK 0", x.alive(0), -2);
        Edges.due("no EVENT 0", x.event(0, 0), -2);
        for (int k = 0; k < 3; k++) {
            Edges.due("IMAGE " + k, x.back(k), -6);
        }
    }

    private static int blanks(FrozenTrees x) {
        return x.feed(0x20202020, 0x20202020, 0x0A0A0A0A, 0x20202020, 0x20202020);
    }

    private static void feed() {
        Edges.says(2, "Twenty bytes come behind the TAPE, four of each number, the highest first: how many it has;");
        FrozenTrees x = new FrozenTrees();
        Edges.due("the first twenty", x.feed(SIGNS[0], SIGNS[1], SIGNS[2], SIGNS[3], SIGNS[4]), 20);
        Edges.due("twenty more", blanks(x), 40);
        Edges.due("they are a SYSTEM", x.system(), 1);
        Edges.due("LAW", x.count(0), 3);
        Edges.due("odds", x.count(1), 7);
        // each of the twenty places: a byte of 255 among blanks
        for (int place = 0; place < 20; place++) {
            int[] five = new int[5];
            for (int i = 0; i < 20; i++) {
                five[i / 4] = five[i / 4] << 8 | (i == place ? 255 : 32);
            }
            x.feed(five[0], five[1], five[2], five[3], five[4]);
            Edges.due("a FAULT", x.system(), -4);
            Edges.due("at " + place, x.fault(1), place);
        }
        Edges.due("the least and the largest number", x.feed(Integer.MIN_VALUE, Integer.MAX_VALUE, -1, 0, 1), 20);
    }

    private static void feedBeyond() {
        Edges.says(2, "NONE, and none come, if it would have more than 900.");
        FrozenTrees x = new FrozenTrees();
        for (int i = 1; i <= 44; i++) {
            blanks(x);
        }
        Edges.due("up to 900", x.feed(SIGNS[0], SIGNS[1], SIGNS[2], SIGNS[3], SIGNS[4]), 900);
        Edges.due("beyond 900", x.feed(-1, -1, -1, -1, -1), FrozenTrees.NONE);
        Edges.due("none came", x.count(5), 900);
        Edges.due("899", x.end(899), 899);
        Edges.due("from 899", x.feed(-1, -1, -1, -1, -1), FrozenTrees.NONE);
        Edges.due("881", x.end(881), 881);
        Edges.due("from 881", x.feed(-1, -1, -1, -1, -1), FrozenTrees.NONE);
        Edges.due("none came to 881", x.count(5), 881);
        Edges.due("880", x.end(880), 880);
        Edges.due("from 880", x.feed(SIGNS[0], SIGNS[1], SIGNS[2], SIGNS[3], SIGNS[4]), 900);
        Edges.due("a full TAPE is read to its last byte", x.system(), 1);
        Edges.due("empty then", blanks(x), 20);
    }

    private static void end() {
        Edges.says(3, "The TAPE has its first n bytes alone: n;");
        FrozenTrees x = new FrozenTrees();
        Edges.due("0 of none", x.end(0), 0);
        x.feed(SIGNS[0], SIGNS[1], SIGNS[2], SIGNS[3], SIGNS[4]);
        x.feed(-1, -1, -1, -1, -1);
        Edges.due("all", x.end(40), 40);
        Edges.due("the first 20", x.end(20), 20);
        Edges.due("they are left", x.system(), 1);
        x.feed(SIGNS[0], SIGNS[1], SIGNS[2], SIGNS[3], SIGNS[4]);
        Edges.due("none", x.end(0), 0);
        Edges.due("none are left", x.system(), 0);
        x.feed(-1, -1, -1, -1, -1);
        x.end(0);
        x.feed(SIGNS[0], SIGNS[1], SIGNS[2], SIGNS[3], SIGNS[4]);
        Edges.due("what comes stands where it was cut", x.system(), 1);
        Edges.says(3, "NONE, and nothing happens, if it has not so many, or n is below 0.");
        Edges.due("1 of none", x.end(1), FrozenTrees.NONE);
        x.feed(SIGNS[0], SIGNS[1], SIGNS[2], SIGNS[3], SIGNS[4]);
        int[] wrong = {21, 900, 901, Integer.MAX_VALUE, -1, -20, Integer.MIN_VALUE};
        for (int n : wrong) {
            Edges.due("end(" + n + ")", x.end(n), FrozenTrees.NONE);
            Edges.due("the TAPE behind end(" + n + ")", x.count(5), 20);
        }
        Edges.due("it is as it was", x.system(), 1);
    }

    private static void system() {
        Edges.says(4, "The TAPE (empty then) is the SYSTEM (in place of another), nothing done: how many LINES");
        FrozenTrees x = new FrozenTrees();
        Edges.due("one LINE, no EVENT", Edges.told(x, "system law 3 odds 10;"), 1);
        Edges.due("the TAPE", x.count(5), 0);
        Edges.due("TICK 0", x.alive(0), 1);
        Edges.due("TICK 1", x.alive(1), -2);
        x.does(0, 1, 9, 0);
        Edges.due("41 LINES", Edges.told(x, Edges.BARE + "fork 1 2;" + "lead 1;".repeat(39)), 41);
        Edges.due("LAW", x.count(0), 0);
        Edges.due("odds", x.count(1), 0);
        Edges.due("EVENTS told", x.count(2), 40);
        Edges.due("nothing done", x.count(3), 0);
        Edges.due("TICK 1 of the other", x.alive(1), 3);
        Edges.due("TICK 40", x.alive(40), 3);
        Edges.due("a third one", Edges.told(x, Edges.BARE + "fork 1 3;"), 2);
        Edges.due("fewer TICKS", x.alive(2), -2);
        Edges.due("its TICK 1", x.alive(1), 5);
    }

    private static void systemNone() {
        Edges.says(4, "(0: there is none then).");
        FrozenTrees x = Edges.of(Edges.BARE + "fork 1 2;");
        x.does(0, 1, 3, 0);
        Edges.due("of an empty TAPE", x.system(), 0);
        Edges.due("no TICK 0", x.alive(0), -2);
        Edges.due("no EVENT 0", x.event(0, 0), -2);
        Edges.due("no LINES", x.count(4), 0);
        Edges.due("none told", x.count(2), 0);
        Edges.due("no acts", x.count(3), 0);
        Edges.told(x, Edges.BARE);
        Edges.due("of blanks alone", Edges.told(x, " \n\n "), 0);
        Edges.due("the TAPE", x.count(5), 0);
        Edges.due("no TICK 0 of blanks", x.alive(0), -2);
    }

    private static void systemFault() {
        Edges.says(4, "-4: a FAULT (all stays).");
        FrozenTrees x = Edges.of("system law 2 odds 9;fork 1 2;");
        x.does(0, 1, 3, 0);
        x.row(1, 0, 3);
        x.image(1);
        Edges.due("a FAULT", Edges.told(x, "system law 1 odds 0;fork 1 16;"), -4);
        Edges.due("LAW", x.count(0), 2);
        Edges.due("odds", x.count(1), 9);
        Edges.due("told", x.count(2), 1);
        Edges.due("acts", x.count(3), 1);
        Edges.due("LINES", x.count(4), 2);
        Edges.due("rows", x.count(6), 1);
        Edges.due("alive", x.alive(2), 7);
        Edges.due("the IMAGE", x.back(1), 0);
        // the tests under ../shared/tests feed the next text right behind a FAULT: the TAPE is empty then, too
        Edges.due("the TAPE", x.count(5), 0);
        FrozenTrees none = new FrozenTrees();
        Edges.due("a FAULT of none", Edges.told(none, "fork"), -4);
        Edges.due("there is none still", none.alive(0), -2);
    }

    private static void fault() {
        FrozenTrees x = new FrozenTrees();
        Edges.says(5, "Of the latest system(), what 0: its FAULT, 0 without,");
        Edges.due("ahead of any", x.fault(0), 0);
        Edges.told(x, "@");
        Edges.due("FAULT 1", x.fault(0), 1);
        Edges.told(x, "system law 4 odds 0;");
        Edges.due("FAULT 2", x.fault(0), 2);
        Edges.told(x, Edges.BARE + "lead 1;".repeat(41));
        Edges.due("FAULT 3", x.fault(0), 3);
        Edges.told(x, Edges.BARE);
        Edges.due("without", x.fault(0), 0);
        Edges.told(x, "@");
        x.system();
        Edges.due("without, of no LINE", x.fault(0), 0);
        Edges.says(5, "1: its place (NONE without).");
        Edges.told(x, "@");
        Edges.due("the first place", x.fault(1), 0);
        Edges.told(x, " ".repeat(899) + "@");
        Edges.due("the last place", x.fault(1), 899);
        Edges.told(x, " ".repeat(894) + "system");
        Edges.due("the end of a full TAPE", x.fault(1), 900);
        Edges.told(x, Edges.BARE);
        Edges.due("without", x.fault(1), FrozenTrees.NONE);
        Edges.told(x, "@");
        x.image(0);
        x.back(0);
        x.does(9, 1, 0, 0);
        Edges.due("it stays behind other calls", x.fault(1), 0);
        x.system();
        Edges.due("without, of no LINE", x.fault(1), FrozenTrees.NONE);
        Edges.says(5, "NONE for another what, and ahead of any (what 1).");
        Edges.due("ahead of any", new FrozenTrees().fault(1), FrozenTrees.NONE);
        Edges.told(x, "@");
        int[] others = {2, -1, 3, Integer.MAX_VALUE, Integer.MIN_VALUE};
        for (int what : others) {
            Edges.due("what " + what, x.fault(what), FrozenTrees.NONE);
            Edges.due("what " + what + " ahead of any", new FrozenTrees().fault(what), FrozenTrees.NONE);
        }
    }

    private static void event() {
        Edges.says(6, "Of an EVENT (told, of acts behind these), what 0: its kind (0 fork, 1 lead, .., 9 touch, as in I), 1 .. 3: its "
            + "numbers (NONE: it has none such).");
        FrozenTrees x = Edges.of(Edges.BARE + "fork 1 15;lead 15;exit 14;open 13 7;pipe 12 6 5;copy 11 0 1;close 10 2;"
            + "write 9 3 30;read 8 4 1;touch 7 7;");
        int[][] want = {{0, 1, 15, -1}, {1, 15, -1, -1}, {2, 14, -1, -1}, {3, 13, 7, -1}, {4, 12, 6, 5}, {5, 11, 0, 1},
            {6, 10, 2, -1}, {7, 9, 3, 30}, {8, 8, 4, 1}, {9, 7, 7, -1}};
        for (int e = 0; e < 10; e++) {
            for (int what = 0; what < 4; what++) {
                Edges.due("event(" + e + ", " + what + ")", x.event(e, what), want[e][what]);
            }
        }
        for (int e = 0; e < 10; e++) {
            int[] w = want[e];
            x.does(w[0], w[1], Math.max(0, w[2]), Math.max(0, w[3]));
            for (int what = 0; what < 4; what++) {
                Edges.due("an act's event(" + (10 + e) + ", " + what + ")", x.event(10 + e, what), w[what]);
            }
        }
        Edges.says(6, "-2: there are none such.");
        Edges.bounds("event", e -> x.event(e, 0), 0, 19, -2);
        Edges.bounds("what", what -> x.event(4, what), 0, 3, -2);
        x.undo();
        Edges.due("an act taken back", x.event(19, 0), -2);
        Edges.due("of no EVENTS", Edges.of(Edges.BARE).event(0, 0), -2);
        Edges.without("event(0, 0)", y -> y.event(0, 0), -2);
    }

    private static void refused() {
        Edges.says(7, "Why an EVENT is REFUSED (II).");
        Edges.refused(Edges.BARE + "lead 2;lead 1;close 1 0;pipe 1 0 1;read 1 1 1;read 1 0 1;write 1 1 30;write 1 1 30;write 1 1 1;",
            1, 2, 3, 0, 4, 5, 0, 0, 6);
        Edges.says(7, "0: it is not; -2: there is none such.");
        FrozenTrees x = Edges.of(Edges.BARE + "fork 1 2;lead 1;");
        Edges.due("it is not", x.refused(0), 0);
        Edges.bounds("refused", x::refused, 0, 1, -2);
        x.does(9, 2, 0, 0);
        x.does(9, 3, 0, 0);
        Edges.due("an act that is not", x.refused(2), 0);
        Edges.due("an act that is", x.refused(3), 1);
        Edges.bounds("refused, with acts", x::refused, 0, 3, -2);
        Edges.due("of no EVENTS", Edges.of(Edges.BARE).refused(0), -2);
        Edges.without("refused(0)", y -> y.refused(0), -2);
    }

    private static void refusals() {
        Edges.says(8, "How many of the first t EVENTS are.");
        FrozenTrees x = Edges.of(Edges.BARE + "lead 1;fork 1 2;lead 1;");
        Edges.due("of none", x.refusals(0), 0);
        Edges.due("of one", x.refusals(1), 1);
        Edges.due("of two", x.refusals(2), 1);
        Edges.due("of all", x.refusals(3), 2);
        x.does(1, 1, 0, 0);
        Edges.due("an act, too", x.refusals(4), 3);
        FrozenTrees y = Edges.of(Edges.BARE + "lead 1;".repeat(40));
        for (int i = 0; i < 30; i++) {
            y.does(1, 1, 0, 0);
        }
        Edges.due("of 70", y.refusals(70), 70);
        Edges.says(8, "-2: there is no such TICK, no SYSTEM.");
        Edges.ticks("refusals", x::refusals, 4);
        Edges.ticks("refusals of 70", y::refusals, 70);
        Edges.ticks("refusals of none", Edges.of(Edges.BARE)::refusals, 0);
        Edges.without("refusals(0)", z -> z.refusals(0), -2);
    }
}
