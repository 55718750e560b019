/** Term I: the text of a SYSTEM, its TOKENS and FAULTS; EVENTS, TICKS, SLOTS. */
final class TextEdges {
    private static final String[] WORDS = {
        "fork", "lead", "exit", "open", "pipe", "copy", "close", "write", "read", "touch"};
    /** The most that each kind's numbers may be; 15 and 30 go with a least of 1, 7 with a least of 0. */
    private static final int[][] MOST = {
        {15, 15}, {15}, {15}, {15, 7}, {15, 7, 7}, {15, 7, 7}, {15, 7}, {15, 7, 30}, {15, 7, 30}, {15, 7}};
    private static final String FORTY = Edges.BARE + "lead 1;".repeat(40);

    private TextEdges() {}

    static void test() {
        lines();
        forms();
        head();
        numbers();
        eventsAndTicks();
        tokens();
        longest();
        places();
        strangers();
        bounds();
        fortyFirst();
        slots();
        wrongFirst();
    }

    private static void lines() {
        Edges.says("I", "SYSTEM: {LINE ;}.");
        Edges.good("", 0);
        Edges.good(Edges.BARE, 1);
        Edges.good(FORTY, 41);
        Edges.fault("system law 0 odds 0", 1, 19);
        Edges.fault(Edges.BARE + "lead 1", 1, 26);
        Edges.fault(Edges.BARE + "lead 1 lead 1;", 1, 27);
        Edges.fault(";", 1, 0);
        Edges.fault(Edges.BARE + ";", 1, 20);
    }

    private static String ones(int kind, int numbers) {
        return Edges.BARE + WORDS[kind] + " 1".repeat(numbers);
    }

    private static void forms() {
        Edges.says("I", "LINE: system law N odds N | fork P C | lead P | exit P | open P H | pipe P H G | copy P H G | "
            + "close P H | write P H N | read P H N | touch P K.");
        for (int kind = 0; kind < WORDS.length; kind++) {
            int n = MOST[kind].length;
            Edges.good(ones(kind, n) + ";", 2);
            Edges.fault(ones(kind, n - 1) + ";", 1, ones(kind, n - 1).length());
            Edges.fault(ones(kind, n + 1) + ";", 1, ones(kind, n + 1).length() - 1);
            Edges.fault(ones(kind, 0) + " x;", 1, ones(kind, 0).length() + 1);
        }
        Edges.fault("system 0 odds 0;", 1, 7);
        Edges.fault("system law odds 0;", 1, 11);
        Edges.fault("system law 0 0;", 1, 13);
        Edges.fault("system law 0 odds;", 1, 17);
        Edges.fault("system odds 0 law 0;", 1, 7);
        Edges.fault("system law 0 law 0;", 1, 13);
    }

    private static void head() {
        Edges.says("I", "system is the first LINE and no other: law 0 .. 3, odds 0 .. 10.");
        Edges.fault("lead 1;", 1, 0);
        Edges.fault(Edges.BARE + Edges.BARE, 1, 20);
        Edges.fault(Edges.BARE + "lead 1;" + Edges.BARE, 1, 27);
        for (int law = 0; law <= 3; law++) {
            Edges.due("law " + law, Edges.of("system law " + law + " odds 0;").count(0), law);
        }
        Edges.fault("system law 4 odds 0;", 2, 11);
        Edges.due("odds 0", Edges.of("system law 0 odds 0;").count(1), 0);
        Edges.due("odds 10", Edges.of("system law 0 odds 10;").count(1), 10);
        Edges.fault("system law 0 odds 11;", 2, 18);
        Edges.fault("system law 0 odds 100;", 2, 18);
    }

    /** A LINE of a kind whose numbers are as the largest, but for one of them. */
    private static String line(int kind, int which, long number) {
        StringBuilder b = new StringBuilder(WORDS[kind]);
        for (int i = 0; i < MOST[kind].length; i++) {
            b.append(' ').append(i == which ? number : MOST[kind][i]);
        }
        return b.toString();
    }

    private static void numbers() {
        Edges.says("I", "P, C 1 .. 15, H, G 0 .. 7, N 1 .. 30, K 0 .. 7.");
        for (int kind = 0; kind < WORDS.length; kind++) {
            for (int which = 0; which < MOST[kind].length; which++) {
                int most = MOST[kind][which];
                int least = most == 7 ? 0 : 1;
                String text = Edges.BARE + line(kind, which, least) + ";";
                Edges.due(text, Edges.of(text).event(0, which + 1), least);
                text = Edges.BARE + line(kind, which, most) + ";";
                Edges.due(text, Edges.of(text).event(0, which + 1), most);
                int place = 20 + line(kind, which, most + 1).lastIndexOf(String.valueOf(most + 1));
                Edges.fault(Edges.BARE + line(kind, which, most + 1) + ";", 2, place);
                if (least == 1) {
                    text = line(kind, which, 0);
                    Edges.fault(Edges.BARE + text + ";", 2, 20 + text.indexOf(" 0") + 1);
                }
            }
        }
    }

    private static void eventsAndTicks() {
        Edges.says("I", "EVENTS 0 .. 39 are numbered as they stand;");
        FrozenTrees x = Edges.of(Edges.BARE + "touch 1 3;" + "lead 1;".repeat(38) + "touch 1 5;");
        Edges.due("event 0", x.event(0, 2), 3);
        Edges.due("event 1", x.event(1, 0), 1);
        Edges.due("event 39", x.event(39, 2), 5);
        Edges.due("event 40", x.event(40, 0), -2);
        Edges.says("I", "by acts there may be more behind them.");
        for (int i = 0; i < 30; i++) {
            x.does(9, 1, i % 8, 0);
        }
        Edges.due("event 40 of acts", x.event(40, 2), 0);
        Edges.due("event 69 of acts", x.event(69, 2), 5);
        Edges.due("event 70", x.event(70, 0), -2);
        Edges.says("I", "TICK t: behind the first t EVENTS (told, of acts).");
        FrozenTrees y = Edges.of(Edges.BARE + "fork 1 2;fork 1 3;");
        Edges.due("TICK 0", y.alive(0), 1);
        Edges.due("TICK 1", y.alive(1), 3);
        Edges.due("TICK 2, the last told", y.alive(2), 7);
        Edges.due("TICK 3 is none", y.alive(3), -2);
        y.does(0, 1, 4, 0);
        Edges.due("TICK 3 by an act", y.alive(3), 15);
        Edges.due("TICK 4 is none", y.alive(4), -2);
    }

    private static void tokens() {
        Edges.says("I", "TOKENS, blanks (32, 10) aside,");
        Edges.good(" \n system\n\nlaw  1\n odds 2 \n;\n ", 1);
        for (int sign = 0; sign < 256; sign++) {
            String text = "system" + (char) sign + "law 0 odds 0;";
            if (sign == 32 || sign == 10) {
                Edges.good(text, 1);
            } else {
                // a letter makes another word of it, which can't stand first
                Edges.fault(text, 1, sign >= 'a' && sign <= 'z' ? 0 : 6);
            }
        }
    }

    private static void longest() {
        Edges.says("I", "the longest: words (a .. z), numbers (digits), the sign ; .");
        Edges.good("system law0odds10;fork1 2;touch1 0;", 3);
        Edges.fault("systemlaw 0 odds 0;", 1, 0);
        Edges.fault("syste m law 0 odds 0;", 1, 0);
        Edges.due("1 5 is not 15", Edges.of(Edges.BARE + "fork 1 5;").event(0, 2), 5);
        Edges.due("15 is not 1 5", Edges.of(Edges.BARE + "lead 15;").event(0, 1), 15);
        Edges.due("all ten digits", Edges.of(Edges.BARE + "write 12 3 4;write 5 6 7;write 8 0 19;").event(2, 3), 19);
        Edges.fault(Edges.BARE + "lead 1az;", 1, 26);
        Edges.fault(Edges.BARE + "az 1;", 1, 20);
        Edges.fault(Edges.BARE + "leadz 1;", 1, 20);
        Edges.fault(Edges.BARE + "leada 1;", 1, 20);
        // the neighbours of a, z, 0, 9 and ; make no longer TOKEN: they stand as strange ones at their own place
        Edges.fault(Edges.BARE + "lead`1;", 1, 24);
        Edges.fault(Edges.BARE + "lead{1;", 1, 24);
        Edges.fault(Edges.BARE + "lead 1/;", 1, 26);
        Edges.fault(Edges.BARE + "lead 1:", 1, 26);
        Edges.fault(Edges.BARE + "lead 1<", 1, 26);
        Edges.due("zeros ahead", Edges.of(Edges.BARE + "fork 001 00000000000000000015;").event(0, 2), 15);
    }

    private static void places() {
        Edges.says("I", "FAULTS, the first by its place (a TOKEN's first byte; the end's), of one place the least:");
        Edges.fault(Edges.BARE + "lead 16 @", 2, 25);
        Edges.fault(Edges.BARE + "lead @ 16;", 1, 25);
        Edges.fault(Edges.BARE + "fork 16 17;", 2, 25);
        Edges.fault(Edges.BARE + "\n\n leads 16;", 1, 23);
        Edges.fault("system law 4 odds 11;lead 0;", 2, 11);
        // the end's place is the TAPE's length, its blanks counted
        Edges.fault(Edges.BARE + "lead", 1, 24);
        Edges.fault(Edges.BARE + "lead \n ", 1, 27);
        Edges.fault("system", 1, 6);
        Edges.fault(Edges.BARE + " ".repeat(876) + "lead", 1, 900);
        // 1 ahead of 2: a number that is too large where none can stand; 1 ahead of 3: no EVENT's word
        Edges.fault(Edges.BARE + "lead 1 99;", 1, 27);
        Edges.fault("99;", 1, 0);
        Edges.fault(FORTY + "99;", 1, 300);
        Edges.fault(FORTY + "leads 1;", 1, 300);
        Edges.fault(FORTY + "system law 0 odds 0;", 1, 300);
    }

    private static void strangers() {
        Edges.says("I", "1 a TOKEN that is none, or can't stand there (system behind the first LINE, another word ahead of "
            + "it).");
        Edges.fault("@", 1, 0);
        Edges.fault("\u0000", 1, 0);
        Edges.fault("\u00ff", 1, 0);
        Edges.fault("System law 0 odds 0;", 1, 0);
        Edges.fault("system law -1 odds 0;", 1, 11);
        Edges.fault("systems law 0 odds 0;", 1, 0);
        Edges.fault("law 0 odds 0;", 1, 0);
        Edges.fault("fork 1 2;", 1, 0);
        Edges.fault(Edges.BARE + "system", 1, 20);
        Edges.fault(Edges.BARE + "law 0;", 1, 20);
        Edges.fault(Edges.BARE + "odds 0;", 1, 20);
        Edges.fault(Edges.BARE + "fork fork 1 2;", 1, 25);
        Edges.fault(Edges.BARE + "7;", 1, 20);
    }

    private static void bounds() {
        Edges.says("I", "2 a number out of its bounds.");
        Edges.fault(Edges.BARE + "lead 0;", 2, 25);
        Edges.fault(Edges.BARE + "lead 16;", 2, 25);
        // numbers that wrap around to one in bounds, were they kept in 32 or 64 bits
        Edges.fault(Edges.BARE + "lead 4294967297;", 2, 25);
        Edges.fault(Edges.BARE + "lead 18446744073709551617;", 2, 25);
        Edges.fault(Edges.BARE + "lead 2147483649;", 2, 25);
        Edges.fault(Edges.BARE + "lead " + "9".repeat(800) + ";", 2, 25);
        Edges.fault("system law 4294967296 odds 0;", 2, 11);
        Edges.fault("system law 0 odds 4294967296;", 2, 18);
    }

    private static void fortyFirst() {
        Edges.says("I", "3 a 41st EVENT, at its word.");
        Edges.good(FORTY, 41);
        Edges.fault(FORTY + "lead 1;", 3, 300);
        Edges.fault(FORTY + " \nlead 1;", 3, 302);
        Edges.fault(FORTY + "lead", 3, 300);
        Edges.fault(FORTY + "lead 99;", 3, 300);
        Edges.fault(Edges.BARE + "lead 1;".repeat(39) + "lead 0;lead 1;", 2, 298);
    }

    private static void slots() {
        Edges.says("I", "SLOTS 0 .. 3 have rows of numbers of 1, 2, 4 or 8 bytes (WIDTH 0 .. 3),");
        FrozenTrees x = Edges.of(Edges.BARE);
        Edges.bounds("row slot", slot -> x.row(slot, 0, 1), 0, 3, -2);
        Edges.bounds("row width", width -> x.row(0, width, 1), 0, 3, -2);
        widths(x);
        Edges.says("I", "at most 60, or nothing.");
        FrozenTrees y = Edges.of(Edges.BARE);
        Edges.due("nothing", y.write(2, 0, 1), -6);
        Edges.due("60", y.row(2, 3, 60), 0);
        Edges.due("the last of 60", y.write(2, 59, 1), 0);
        Edges.due("61", y.row(2, 3, 61), -2);
        Edges.due("a row of none is no nothing", y.row(2, 3, 0), 0);
        Edges.due("it has no number", y.write(2, 0, 1), -7);
    }

    /** 1 hangs from 0 at TICK 0: told in so many bytes, and in one byte too many. */
    private static void widths(FrozenTrees x) {
        long[] beyond = {1L << 8, 1L << 16, 1L << 32};
        for (int width = 0; width < 4; width++) {
            for (int i = 0; i < 3; i++) {
                Edges.row(x, 1, width, beyond[i], 1 + beyond[i], beyond[i]);
                Edges.due("WIDTH " + width + " by " + beyond[i], x.plain(1), i >= width ? 1 : -2);
            }
        }
    }

    private static void wrongFirst() {
        Edges.says("I", "-2 (-1,000) is asked ahead of -5, -6.");
        FrozenTrees none = new FrozenTrees();
        Edges.due("undo() without SYSTEM or act", none.undo(), -2);
        Edges.due("may(0) without SYSTEM or row", none.may(0), -2);
        Edges.due("write to no SLOT", none.write(4, 0, 0), -2);
        Edges.due("paste from nothing to no SLOT", none.paste(0, 0, 4, 0, 0), -2);
        Edges.due("paste from no SLOT to nothing", none.paste(4, 0, 0, 0, 0), -2);
        Edges.due("back to no IMAGE", none.back(3), -2);
        FrozenTrees x = Edges.of(Edges.BARE);
        Edges.due("may of no SLOT", x.may(4), -2);
        for (int i = 0; i < 30; i++) {
            x.does(9, 1, 0, 0);
        }
        Edges.due("30 acts", x.does(9, 1, 0, 0), -5);
        Edges.due("a wrong 31st", x.does(9, 1, 8, 0), -2);
        Edges.due("a 31st of no kind", x.does(10, 1, 0, 0), -2);
    }
}
