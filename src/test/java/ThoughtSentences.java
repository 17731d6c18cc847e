/** Sentences on what would be: of the Terms, and of promises 17 to 27. */
final class ThoughtSentences extends Sentence {
    static void all() {
        onlyThought();
        beyondTheLastHour();
        behind();
        lostFirst();
        lostFirstLeast();
        setting();
        leastFalse();
        which();
        struck();
        dark();
        darkFewest();
        darkLeastSet();
        deep();
        draws();
        traffic();
        odds();
        then();
        thenBeyond();
        lost();
        lostBeyond();
        lostNone();
        settingForN();
        settingBeyond();
        settingNone();
        leastFalseWhat();
        leastFalseBeyond();
        whichWhat();
        whichBeyond();
        whichNone();
        struckSets();
        struckBeyond();
        darkSet();
        darkBeyond();
        darkNone();
        deepV();
        deepBeyond();
        deepNone();
        drawsOfOne();
        drawsBeyond();
        drawsState();
        drawsNone();
        trafficWhat();
        trafficBeyond();
        oddsParts();
        oddsBeyond();
    }

    // ---- the Terms

    private static void onlyThought() {
        term("(All this is only thought, HOUR beyond 9999, too.)");
        OldLight x = Made.sevenShips();
        OldLight other = Made.sevenShips();
        x.then(60, 6, 1);
        x.lost(0);
        x.setting(127, 20);
        x.setting(0, 0);
        x.leastFalse(0);
        x.which(1, 0);
        x.struck(5);
        x.dark(20);
        x.dark(0);
        x.deep(5, 19);
        x.draws(0);
        x.traffic(60, 0);
        x.odds(6, 60, 1);
        same("the state", Shown.all(x), Shown.all(other));
    }

    private static void beyondTheLastHour() {
        term("(All this is only thought, HOUR beyond 9999, too.)");
        OldLight x = Made.atHour(9999);
        Expect.law(x, 0, "2+4*(y<191)");
        Expect.law(x, 1, "h<9999");
        x.set(1, 10);
        x.set(2, 4);
        x.change(0, 0, 4);
        x.change(0, 1, 2);
        x.change(2, 2, 1);
        due("no HOUR is less", x.then(60, 0, 0), 2);
        Expect.law(x, 1, "h-9999=57");
        due("behind 57", x.then(57, 0, 0), 2);
        due("behind 58", x.then(58, 0, 0), 3);
        due("behind 59", x.then(59, 0, 0), 2);
        due("LOST behind 58", x.then(58, 0, 1), 0);
        due("LOST behind 59", x.then(59, 0, 1), 1);
        due("LOST first", x.lost(0), 59);
        due("who", x.lost(1), 0);
        due("struck", x.struck(2), 1);
        Expect.law(x, 1, "h-9999=18");
        due("dark in 19", x.dark(19), 0);
        due("dark in 20", x.dark(20), 4);
        due("traffic", x.traffic(60, 1), 1);
        due("odds", x.odds(1, 60, 0), 1);
        due("setting", x.setting(2, 20), 0);
        due("draws", x.draws(1), 9);
        x.tell(1);
        due("check", x.check(), 0);
        due("HOUR", x.count(2), 9999);
    }

    private static void behind() {
        term("BEHIND n HOURS (0 to 60).");
        OldLight x = new OldLight();
        Expect.law(x, 1, "h=59|h=0");
        Made.ships(x, new int[] {0, 9, 2}, new int[] {0, 5, 7});
        int[][] rows = {{0, 2, 7}, {1, 3, 6}, {2, 3, 5}, {6, 3, 1}, {7, 3, 0}, {59, 3, 0}, {60, 4, 0}};
        for (int[] a : rows) {
            due("behind " + a[0] + ", the first", x.then(a[0], 0, 0), a[1]);
            due("behind " + a[0] + ", the second", x.then(a[0], 1, 0), a[2]);
        }
        due("behind -1", x.then(-1, 0, 0), BEYOND);
        due("behind 61", x.then(61, 0, 0), BEYOND);
    }

    /** One that goes out from CELL 2 in a told HOUR, and strikes in the next; CELL 2 alone is in BEAM. */
    private static OldLight goesOut(int hour) {
        OldLight x = Made.silted(new int[] {0, 4, 2});
        x.set(2, 4);
        Expect.text(x, 1, "h=" + hour);
        return x;
    }

    private static void lostFirst() {
        term("LOST FIRST: behind how many HOURS (0 to 60) more SHIPS are LOST than now first; the least such then.");
        due("without SHIPS", Made.silted().lost(0), NONE);
        for (int hour = 0; hour <= 58; hour++) {
            due("it goes out in HOUR " + hour, goesOut(hour).lost(0), hour + 2);
            due("who", goesOut(hour).lost(1), 0);
        }
        due("one too late", goesOut(59).lost(0), NONE);
        due("two too late", goesOut(60).lost(1), NONE);
        OldLight x = Made.silted(new int[] {0, 4, 3}, new int[] {0, 4, 3});
        due("in the next HOUR", x.lost(0), 1);
        x.change(0, 2, 1);
        due("with one LOST now", x.lost(0), 1);
        due("who", x.lost(1), 1);
        x.change(1, 2, 1);
        due("with all LOST now", x.lost(0), NONE);
        due("who", x.lost(1), NONE);
    }

    private static void lostFirstLeast() {
        term("more SHIPS are LOST than now first; the least such then.");
        for (int first = 0; first < 7; first++) {
            OldLight x = Made.silted();
            for (int i = 0; i < 7; i++) {
                x.ship(i < first ? 20 : 0, 4, i < first ? 0 : 7);
            }
            due("from " + first + " on", x.lost(1), first);
            due("from " + first + " on", x.lost(0), 1);
        }
        OldLight y = goesOut(3);
        Made.ships(y, new int[] {0, 3, 3}, new int[] {0, 6, 3});
        due("a later one has a lesser number", y.lost(1), 1);
        due("behind", y.lost(0), 1);
        y.change(1, 2, 1);
        due("a LOST one has a lesser number", y.lost(1), 2);
    }

    private static void setting() {
        term("SETTING for a set of SHIPS in n HOURS: the least BACK (0 to 99) with which all of them are AT 0 behind them.");
        int[][] rows = {{201, 0}, {200, 1}, {150, 51}, {103, 98}, {102, 99}, {101, NONE}, {1, NONE}};
        for (int[] a : rows) {
            OldLight x = Made.silted(new int[] {0, 6, 1});
            Expect.law(x, 0, "2+4*(y<" + a[0] + ")");
            due("deep ahead of " + a[0], x.setting(1, 1), a[1]);
            x.set(1, 99);
            due("BACK now doesn't matter", x.setting(1, 1), a[1]);
            due("nor is it changed", x.count(4), 99);
        }
        OldLight y = Made.silted(new int[] {0, 6, 1}, new int[] {20, 6, 1}, new int[] {60, 4, 0}, new int[] {20, 9, 0}, new int[] {20, 2, 3});
        y.change(3, 2, 1);
        int[][] sets = {{0, 0}, {1, 10}, {2, NONE}, {3, NONE}, {4, 0}, {8, 0}, {12, 0}, {16, 0}, {17, 10}, {29, 10}, {31, NONE}};
        for (int[] a : sets) {
            due("set " + a[0], y.setting(a[0], 3), a[1]);
        }
        OldLight z = Made.silted(new int[] {0, 6, 1}, new int[] {60, 2, 1});
        Expect.law(z, 0, "2+4*(y<191)-9*(y=180)");
        due("a GHOST alone", z.setting(2, 1), 0);
        due("a GHOST believes by twice each BACK", z.setting(3, 1), 11);
    }

    private static void leastFalse() {
        term("LEAST FALSE: of BACKS 1 to 99 that by which fewest CELLS (all, as if BEAM had them) would be SHOWN other than TRUE;"
            + " of several the least; how many.");
        String[] texts = {"b", "y=200", "y=200|y=199", "y=200|y=101", "y=200|y=100", "y=200|y=102|y=101", "c*(y=200|y=199&c<7)",
            "c*(y=200|y=150&c>2)", "(y=200)*(c=5)", "y<200", "y>201"};
        int[] backs = {1, 1, 1, 99, 1, 98, 1, 50, 1, 1, 1};
        int[] many = {0, 8, 0, 0, 8, 0, 1, 2, 1, 8, 0};
        for (int i = 0; i < texts.length; i++) {
            for (int beam = 0; beam < 256; beam += 85) {
                OldLight x = new OldLight();
                x.set(2, beam);
                x.set(1, beam % 100);
                Expect.law(x, 0, texts[i]);
                due(texts[i] + ": BACK", x.leastFalse(0), backs[i]);
                due(texts[i] + ": how many", x.leastFalse(1), many[i]);
            }
        }
        OldLight y = new OldLight();
        y.set(0, 3);
        Expect.law(y, 0, "y=3|y=0");
        due("YEAR 0", y.leastFalse(0), 3);
        Expect.law(y, 0, "y%3");
        due("3 and 0 alike", y.leastFalse(0), 3);
        y.set(0, 0);
        due("none ahead of YEAR 0", y.leastFalse(0), 1);
        due("how many", y.leastFalse(1), 0);
        OldLight z = new OldLight();
        z.lay(7, 1, 102);
        z.lay(7, 2, 999);
        due("a ROCK within reach", z.leastFalse(0), 1);
        z.lay(6, 1, 101);
        z.lay(6, 2, 199);
        due("one CELL", z.leastFalse(1), 1);
        z.lay(7, 2, 199);
        due("two ROCKS till the last YEAR", z.leastFalse(0), 99);
        due("one is left", z.leastFalse(1), 1);
    }

    private static void which() {
        term("WHICH: a SHEET tells how CELLS 0, 1, .. are SHOWN (below 0: not told; as many numbers as CELLS): BACKS 0 to 99 by"
            + " which that is so (by BEAM): how many; the least.");
        OldLight x = new OldLight();
        Expect.law(x, 0, "(y=200)+(y=101)*2+(y=100)*3+(y=201)*4");
        x.sheet(0, 8, 8);
        x.set(2, 128);
        shows(x, "BACK 0 alone", 1, 0, 1, 1, 1, 1, 1, 1, 1, 1);
        shows(x, "BACK 99 alone", 1, 99, 1, 1, 1, 1, 1, 1, 1, 2);
        shows(x, "all between", 98, 1, 1, 1, 1, 1, 1, 1, 1, 0);
        shows(x, "100 back", 0, NONE, 1, 1, 1, 1, 1, 1, 1, 3);
        shows(x, "-1 back", 0, NONE, 1, 1, 1, 1, 1, 1, 1, 4);
        shows(x, "the first is not so", 0, NONE, 0, 1, 1, 1, 1, 1, 1, 1);
        shows(x, "none is told", 100, 0, -1, -1, -1, -1, -1, -1, -1, -128);
        shows(x, "the last alone is told", 98, 1, -1, -1, -1, -1, -1, -1, -1, 0);
        shows(x, "the first alone is told", 100, 0, 1, -1, -1, -1, -1, -1, -1, -1);
        x.set(2, 0);
        shows(x, "none in BEAM", 100, 0, 1, 1, 1, 1, 1, 1, 1, 1);
        shows(x, "none in BEAM", 0, NONE, 1, 1, 1, 1, 1, 1, 1, 0);
        x.set(2, 255);
        shows(x, "all in BEAM", 98, 1, 0, 0, 0, 0, 0, 0, 0, 0);
        x.set(1, 50);
        shows(x, "BACK now doesn't matter", 98, 1, 0, 0, 0, 0, 0, 0, 0, 0);
    }

    private static void shows(OldLight x, String call, int many, int least, int... numbers) {
        for (int i = 0; i < numbers.length; i++) {
            x.put(0, i, numbers[i]);
        }
        due(call + ": how many", x.which(0, 0), many);
        due(call + ": the least", x.which(0, 1), least);
    }

    private static void struck() {
        term("STRUCK: SHIPS that are LOST, AT a CELL, behind 60 HOURS (also such as are now), as a set.");
        due("in the 60th HOUR", goesOut(58).struck(2), 1);
        due("in the 61st", goesOut(59).struck(2), 0);
        due("at once", goesOut(0).struck(2), 1);
        due("not where it went out to", goesOut(59).struck(3), 0);
        OldLight x = Made.silted(new int[] {0, 4, 7}, new int[] {20, 2, 6}, new int[] {0, 4, 1}, new int[] {0, 4, 0});
        x.change(1, 2, 1);
        row("CELL", x::struck, 4, 0, 0, 0, 0, 0, 3, 0, BEYOND);
        x.change(3, 2, 1);
        row("one that is LOST AT 0 now, CELL", x::struck, 12, 0, 0, 0, 0, 0, 3, 0, BEYOND);
        x.change(0, 2, 1);
        row("one that is LOST AT 7 now, CELL", x::struck, 12, 0, 0, 0, 0, 0, 2, 1, BEYOND);
    }

    private static void dark() {
        term("DARK: the fewest CELLS that would have to be out of BEAM so that no more SHIPS are LOST behind n HOURS (0 to 20) than"
            + " now; of several sets the least.");
        for (int hour = 0; hour <= 20; hour++) {
            for (int n = 0; n <= 20; n++) {
                if (n + 3 > hour && n < hour + 4 || n == 0 || n == 20) {
                    due("it goes out in HOUR " + hour + ", in " + n, goesOut(hour).dark(n), n >= hour + 2 ? 4 : 0);
                }
            }
        }
        OldLight x = Made.silted(new int[] {0, 4, 3});
        due("0 HOURS", x.dark(0), 0);
        due("1 HOUR", x.dark(1), 4);
        x.change(0, 2, 1);
        due("it is LOST now", x.dark(20), 0);
        Made.ships(x, new int[] {0, 4, 3});
        due("another one isn't", x.dark(20), 4);
        x.set(2, 0);
        due("nothing in BEAM", x.dark(20), 0);
        x.set(2, 251);
        due("all but the CELL in BEAM", x.dark(20), 0);
        due("BEAM stays", x.count(5), 251);
        due("without SHIPS", Made.silted().dark(20), 0);
        OldLight y = Made.silted();
        for (int cell = 1; cell < 8; cell++) {
            y.ship(0, 4, cell);
        }
        due("seven CELLS", y.dark(1), 127);
        due("seven CELLS", y.dark(20), 127);
        y.change(0, 1, 0);
        due("six CELLS", y.dark(1), 126);
        y.change(0, 1, 7);
        y.change(5, 1, 7);
        due("three AT 7", y.dark(1), 2 + 4 + 8 + 16 + 64);
    }

    /** BEDS as they are told, 9 in each YEAR ahead of this one; the lens is 1 back, all CELLS are in BEAM. */
    private static OldLight deepOnce(int... beds) {
        OldLight x = new OldLight();
        Expect.text(x, 0, "b*(y=200)+9*(y<200)");
        x.set(1, 1);
        x.set(2, 255);
        for (int cell = 0; cell < beds.length; cell++) {
            x.lay(cell, 0, beds[cell]);
        }
        return x;
    }

    private static void darkFewest() {
        term("DARK: the fewest CELLS that would have to be out of BEAM");
        OldLight x = deepOnce(4, 3, 5, 4, 5, 5, 5, 5);
        x.ship(0, 4, 7);
        due("CELL 1 alone is too shallow", x.dark(20), 2);
        x.ship(0, 5, 7);
        due("CELL 3 is, for another one", x.dark(20), 8 + 2);
        x.lay(1, 0, 9);
        due("CELL 3 alone", x.dark(20), 8);
        x.lay(3, 0, 9);
        due("CELL 0 alone", x.dark(20), 1);
        x.lay(0, 0, 9);
        due("none", x.dark(20), 0);
        OldLight y = deepOnce(9, 9, 3, 4, 3, 9, 9, 9);
        int[][] kinds = {{0, 16}, {41, 16}, {32, 0}, {50, 16}, {20, 0}, {60, 0}, {10, 16}, {12, NONE}};
        y.ship(0, 5, 7);
        for (int[] a : kinds) {
            y.become(0, a[0]);
            due("one of " + a[0], y.dark(20), a[1]);
        }
        OldLight z = deepOnce(9, 9, 2, 8, 8, 8, 8, 8);
        Expect.law(z, 0, "b*(y=200)+(9-b)*(y<200)");
        z.ship(0, 3, 4);
        due("it waits ahead of CELL 3", z.dark(20), 0);
        z.set(2, 4);
        due("CELL 3 out of BEAM already lets it strike", z.dark(20), 4);
        z.set(2, 12);
        due("CELL 3 in BEAM", z.dark(20), 0);
    }

    /** A CUTTER is held up by each CELL out of BEAM that is just as deep as its DRAFT. */
    private static void darkLeastSet() {
        term("of several sets the least.");
        OldLight x = deepOnce(9, 9, 9, 9, 3, 5, 5, 9);
        x.ship(40, 5, 7);
        due("each of CELLS 4, 5, 6 would do", x.dark(20), 16);
        x.ship(0, 6, 7);
        due("CELL 6 would do for both", x.dark(20), 64);
        OldLight y = deepOnce(9, 2, 4, 4, 3, 5, 5, 9);
        y.ship(40, 5, 7);
        y.ship(40, 4, 4);
        due("one of CELLS 4, 5, 6, one of 1, 2, 3", y.dark(20), 16 + 2);
        due("in 3 HOURS", y.dark(3), 16 + 2);
        due("in 2 HOURS", y.dark(2), 0);
        y.set(2, 64 + 8);
        due("others are not in BEAM", y.dark(20), 0);
    }

    private static void deep() {
        term("DEEP v of a CELL: how many YEARS ago (0 to 99) it was v deep or more last.");
        OldLight y = new OldLight();
        Expect.law(y, 0, "2*(y<200)+2*(y=102)+3*(y=101)+9*(y=100)+1");
        int[][] rows = {{0, 0}, {1, 0}, {2, 1}, {3, 1}, {4, 98}, {5, 98}, {6, 99}, {7, NONE}, {12, NONE}, {19, NONE}};
        for (int[] a : rows) {
            due("deep " + a[0], y.deep(7, a[0]), a[1]);
        }
        y.set(0, 199);
        due("99 YEARS ago now", y.deep(7, 12), 99);
        y.set(0, 198);
        due("98 YEARS ago now", y.deep(7, 12), 98);
        y.set(0, 100);
        due("in this YEAR", y.deep(7, 12), 0);
        y.set(0, 99);
        due("not yet", y.deep(7, 12), NONE);
        y.lay(7, 1, 0);
        y.lay(7, 2, 999);
        due("0 by a ROCK", y.deep(7, 0), 0);
        due("1 by a ROCK", y.deep(7, 1), NONE);
        y.lay(7, 1, 50);
        due("ahead of the ROCK", y.deep(7, 1), 50);
        y.set(0, 149);
        due("ahead of the ROCK, just within", y.deep(7, 1), NONE);
        y.set(0, 148);
        due("ahead of the ROCK, just within", y.deep(7, 1), 99);
        OldLight z = new OldLight();
        z.set(0, 5);
        Expect.law(z, 0, "9-y");
        due("in YEAR 0", z.deep(0, 9), 5);
        z.lay(0, 1, 0);
        z.lay(0, 2, 5);
        due("none below YEAR 0", z.deep(0, 1), NONE);
        due("the lens doesn't matter", Made.silted().deep(3, 6), 10);
    }

    private static void draws() {
        term("DRAWS: the greatest DRAFT (0 to 9) with which a SHIP would be AT 0 behind 60 HOURS.");
        int[] depths = {0, 1, 2, 5, 8, 9, 10, 19};
        for (int depth : depths) {
            OldLight x = new OldLight();
            Expect.law(x, 0, "" + depth);
            Made.ships(x, new int[] {20, 0, 7}, new int[] {20, 9, 1}, new int[] {41, 9, 0});
            due("depth " + depth, x.draws(0), Math.min(9, depth));
            due("depth " + depth + ", its DRAFT doesn't matter", x.draws(1), Math.min(9, depth));
            due("depth " + depth + ", AT 0", x.draws(2), 9);
            due("DRAFT stays", x.ofShip(0, 2), 0);
            due("DRAFT stays", x.ofShip(1, 2), 9);
        }
        OldLight y = Made.silted(new int[] {0, 9, 7}, new int[] {0, 9, 1}, new int[] {10, 9, 2}, new int[] {42, 9, 2});
        due("it would strike", y.draws(0), 2);
        due("it would strike AT 0", y.draws(1), 6);
        due("it would strike ahead", y.draws(2), 2);
        due("it would strike ahead", y.draws(3), 2);
        OldLight w = Made.silted(new int[] {0, 4, 7}, new int[] {0, 2, 1}, new int[] {0, 0, 1});
        row("their own DRAFTS don't matter, SHIP", w::draws, 2, 6, 6, BEYOND);
        OldLight z = Made.silted(new int[] {20, 9, 1});
        Expect.law(z, 0, "7-7*(c=2)");
        Expect.law(z, 1, "d>3");
        due("one that never goes out", z.draws(0), 7);
        Expect.law(z, 0, "4+5*(c>0)");
        due("one that goes out and in", z.draws(0), 4);
    }

    private static void traffic() {
        term("TRAFFIC: the CELL AT which most SHIPS are behind n HOURS, those LOST left out; of several the least; how many.");
        OldLight none = Made.silted();
        due("without SHIPS, the CELL", none.traffic(0, 0), 0);
        due("without SHIPS, how many", none.traffic(60, 1), 0);
        OldLight x = Made.silted();
        for (int i = 0; i < 7; i++) {
            x.ship(20, 2, 7);
        }
        for (int n = 0; n <= 8; n++) {
            due("all, behind " + n, x.traffic(n, 0), Math.max(0, 7 - n));
            due("all, behind " + n, x.traffic(n, 1), 7);
        }
        for (int i = 0; i < 7; i++) {
            x.change(i, 1, i + 1);
        }
        due("one each, the CELL", x.traffic(0, 0), 1);
        due("one each, how many", x.traffic(0, 1), 1);
        due("behind 1, the CELL", x.traffic(1, 0), 0);
        due("behind 1, how many", x.traffic(1, 1), 1);
        due("behind 2, how many", x.traffic(2, 1), 2);
        x.change(6, 1, 1);
        due("two AT 1, the CELL", x.traffic(0, 0), 1);
        due("two AT 1, how many", x.traffic(0, 1), 2);
        x.change(5, 1, 5);
        due("of two CELLS the least", x.traffic(0, 0), 1);
        x.change(6, 2, 1);
        due("one LOST AT 1", x.traffic(0, 0), 5);
        due("one LOST AT 1", x.traffic(0, 1), 2);
        for (int i = 0; i < 7; i++) {
            x.change(i, 2, 1);
        }
        due("all LOST, the CELL", x.traffic(60, 0), 0);
        due("all LOST, how many", x.traffic(60, 1), 0);
        OldLight y = Made.silted(new int[] {0, 4, 3}, new int[] {0, 4, 3}, new int[] {20, 2, 7});
        due("two AT 3", y.traffic(0, 0), 3);
        due("LOST by then", y.traffic(1, 0), 6);
        due("LOST by then", y.traffic(1, 1), 1);
        OldLight z = new OldLight();
        Expect.law(z, 1, "h=59");
        z.ship(20, 9, 3);
        due("behind 59", z.traffic(59, 0), 3);
        due("behind 60", z.traffic(60, 0), 4);
    }

    private static void odds() {
        term("ODDS: that a SHIP is AT 0 behind n HOURS, BACK being 0 to 19, each just as likely: a fraction in lowest terms (0 is 0"
            + " by 1).");
        int[] above = {0, 1, 1, 3, 1, 1, 3, 7, 2, 9, 1, 11, 3, 13, 7, 3, 4, 17, 9, 19, 1};
        int[] below = {1, 20, 10, 20, 5, 4, 10, 20, 5, 20, 2, 20, 5, 20, 10, 4, 5, 20, 10, 20, 1};
        for (int good = 0; good <= 20; good++) {
            OldLight x = Made.silted(new int[] {0, 6, 1});
            Expect.law(x, 0, "2+4*(y<" + (181 + good) + ")");
            due(good + " of 20, above", x.odds(0, 1, 0), above[good]);
            due(good + " of 20, below", x.odds(0, 1, 1), below[good]);
            x.set(1, 77);
            due("BACK now doesn't matter", x.odds(0, 60, 0), above[good]);
            due("nor is it changed", x.count(4), 77);
        }
        OldLight y = Made.silted(new int[] {0, 6, 1});
        Expect.law(y, 0, "6*(y=181)");
        due("19 back", y.odds(0, 1, 1), 20);
        Expect.law(y, 0, "6*(y=180)");
        due("20 back", y.odds(0, 1, 1), 1);
        Expect.law(y, 0, "6*(y=200)");
        due("0 back", y.odds(0, 1, 0), 1);
        due("0 back", y.odds(0, 1, 1), 20);
        y.become(0, 60);
        Expect.law(y, 0, "9-9*(y=198)");
        due("a GHOST by twice each BACK", y.odds(0, 1, 0), 19);
        Expect.law(y, 0, "9-9*(y=199)");
        due("a GHOST by twice each BACK", y.odds(0, 1, 1), 1);
        Expect.law(y, 0, "9-9*(y=162)");
        due("a GHOST, 38 YEARS", y.odds(0, 1, 0), 19);
        Expect.law(y, 0, "9-9*(y=160)");
        due("a GHOST, 40 YEARS", y.odds(0, 1, 0), 1);
    }

    // ---- Promise 17

    private static void then() {
        of(17, "BEHIND n HOURS, of a SHIP: what 0 AT, 1 whether LOST.");
        OldLight x = Made.silted(new int[] {0, 4, 3}, new int[] {20, 2, 3}, new int[] {20, 2, 0});
        x.change(2, 2, 1);
        int[][] rows = {{0, 3, 0, 3, 0, 0, 1}, {1, 2, 1, 2, 0, 0, 1}, {2, 2, 1, 1, 0, 0, 1}, {3, 2, 1, 0, 0, 0, 1},
            {60, 2, 1, 0, 0, 0, 1}};
        for (int[] a : rows) {
            for (int ship = 0; ship < 3; ship++) {
                due("then(" + a[0] + ", " + ship + ", 0)", x.then(a[0], ship, 0), a[1 + 2 * ship]);
                due("then(" + a[0] + ", " + ship + ", 1)", x.then(a[0], ship, 1), a[2 + 2 * ship]);
            }
        }
    }

    private static void thenBeyond() {
        of(17, "BEYOND.");
        refused(Made::fresh, "then(0, 0, 0) without SHIPS", x -> x.then(0, 0, 0), BEYOND);
        bounds(Made::laden, "then(%d, 1, 0)", 0, 60, (x, v) -> x.then(v, 1, 0));
        bounds(Made::laden, "then(5, %d, 0)", 0, 2, (x, v) -> x.then(5, v, 0));
        bounds(Made::sevenShips, "then(5, %d, 1)", 0, 6, (x, v) -> x.then(5, v, 1));
        bounds(Made::laden, "then(60, 2, %d)", 0, 1, (x, v) -> x.then(60, 2, v));
    }

    // ---- Promise 18

    private static void lost() {
        of(18, "LOST FIRST: what 0 behind how many HOURS, 1 which SHIP.");
        OldLight x = Made.silted(new int[] {20, 2, 7}, new int[] {0, 4, 7}, new int[] {0, 4, 6}, new int[] {0, 4, 5});
        x.set(2, 0x18);
        due("behind how many", x.lost(0), 1);
        due("which", x.lost(1), 3);
        x.hours(1);
        due("one HOUR later, none more", x.lost(0), NONE);
        x.change(1, 1, 5);
        x.change(2, 1, 4);
        due("behind how many", x.lost(0), 1);
        due("which", x.lost(1), 1);
    }

    private static void lostBeyond() {
        of(18, "BEYOND.");
        bounds(() -> goesOut(5), "lost(%d)", 0, 1, OldLight::lost);
        for (int what : outside(0, 1)) {
            refused(Made::laden, "lost(" + what + ")", x -> x.lost(what), BEYOND);
            refused(Made::fresh, "lost(" + what + "), BEYOND first", x -> x.lost(what), BEYOND);
        }
    }

    private static void lostNone() {
        of(18, "NONE: not by 60.");
        due("by 60", goesOut(58).lost(0), 60);
        for (int what = 0; what <= 1; what++) {
            int told = what;
            refused(Made::fresh, "lost(" + what + ") without SHIPS", x -> x.lost(told), NONE);
            refused(() -> goesOut(59), "lost(" + what + ") in the 61st", x -> x.lost(told), NONE);
            refused(() -> Made.silted(new int[] {20, 2, 7}), "lost(" + what + ") with one that doesn't", x -> x.lost(told), NONE);
            refused(() -> Made.silted(new int[] {0, 9, 0}), "lost(" + what + ") with one AT 0", x -> x.lost(told), NONE);
        }
    }

    // ---- Promise 19

    private static void settingForN() {
        of(19, "SETTING for n (0 to 20).");
        OldLight x = Made.silted(new int[] {20, 2, 7}, new int[] {20, 2, 0}, new int[] {0, 6, 1});
        due("in 6", x.setting(1, 6), NONE);
        due("in 7", x.setting(1, 7), 0);
        due("in 20", x.setting(1, 20), 0);
        due("in 0", x.setting(2, 0), 0);
        due("in 0", x.setting(4, 0), NONE);
        due("in 1", x.setting(4, 1), 10);
        due("all in 7", x.setting(7, 7), 10);
        due("none in 0", x.setting(0, 0), 0);
        due("none in 20", x.setting(0, 20), 0);
        due("without SHIPS", new OldLight().setting(0, 0), 0);
    }

    private static void settingBeyond() {
        of(19, "BEYOND.");
        bounds(Made::fresh, "setting(%d, 0) without SHIPS", 0, 0, (x, v) -> x.setting(v, 0));
        bounds(() -> Made.silted(new int[] {20, 2, 0}), "setting(%d, 5) of one", 0, 1, (x, v) -> x.setting(v, 5));
        bounds(Made::allIn, "setting(%d, 5) of seven", 0, 127, (x, v) -> x.setting(v, 5));
        bounds(Made::allIn, "setting(127, %d)", 0, 20, (x, v) -> x.setting(127, v));
        for (int n : outside(0, 20)) {
            refused(Made::sevenShips, "setting(127, " + n + "), BEYOND first", x -> x.setting(127, n), BEYOND);
        }
        for (int ships : outside(0, 7)) {
            refused(Made::laden, "setting(" + ships + ", 0)", x -> x.setting(ships, 0), BEYOND);
        }
    }

    private static void settingNone() {
        of(19, "NONE: with none.");
        refused(() -> Made.silted(new int[] {20, 2, 7}), "setting(1, 6)", x -> x.setting(1, 6), NONE);
        refused(() -> Made.silted(new int[] {0, 7, 1}), "setting(1, 20)", x -> x.setting(1, 20), NONE);
        refused(() -> Made.silted(new int[] {0, 0, 1}), "setting(1, 0)", x -> x.setting(1, 0), NONE);
        refused(() -> {
            OldLight x = Made.silted(new int[] {20, 2, 1});
            x.change(0, 2, 1);
            return x;
        }, "setting(1, 20) of one that is LOST", x -> x.setting(1, 20), NONE);
        refused(() -> {
            OldLight x = Made.silted(new int[] {0, 6, 1});
            Expect.text(x, 0, "2+4*(y<101)");
            return x;
        }, "setting(1, 20), 100 back alone", x -> x.setting(1, 20), NONE);
    }

    // ---- Promise 20

    private static void leastFalseWhat() {
        of(20, "LEAST FALSE: what 0 BACK, 1 how many.");
        for (int n = 3; n <= 8; n++) {
            OldLight x = new OldLight();
            x.bay(n);
            due("as it was, BACK", x.leastFalse(0), 1);
            due("as it was, how many", x.leastFalse(1), 0);
            Expect.law(x, 0, "y=200");
            due("all false, BACK", x.leastFalse(0), 1);
            due("all false, how many", x.leastFalse(1), n);
            Expect.law(x, 0, "c*(y=200)+c*(y=101)-(y=101)*(c=1)");
            due("one false, BACK", x.leastFalse(0), 99);
            due("one false, how many", x.leastFalse(1), 1);
        }
    }

    private static void leastFalseBeyond() {
        of(20, "BEYOND.");
        bounds(Made::fresh, "leastFalse(%d)", 0, 1, OldLight::leastFalse);
        bounds(Made::laden, "leastFalse(%d)", 0, 1, OldLight::leastFalse);
    }

    // ---- Promise 21

    private static void whichWhat() {
        of(21, "WHICH, by a SHEET: what 0 how many, 1 the least.");
        for (int bits = 8; bits <= 32; bits *= 2) {
            for (int sheet = 0; sheet < 4; sheet++) {
                OldLight x = new OldLight();
                x.bay(3);
                x.set(2, 7);
                Expect.law(x, 0, "19*(y>101&y<199)+c");
                Made.row(x, sheet, bits, "012");
                due("how many", x.which(sheet, 0), 3);
                due("the least", x.which(sheet, 1), 0);
                x.set(2, 6);
                x.put(sheet, 0, 19);
                due("how many", x.which(sheet, 0), 0);
                x.put(sheet, 0, -1);
                due("how many", x.which(sheet, 0), 3);
                x.put(sheet, 1, 19);
                x.put(sheet, 2, 19);
                due("how many", x.which(sheet, 0), 97);
                due("the least", x.which(sheet, 1), 2);
                x.put(sheet, 2, bits == 8 ? 19 + 128 : bits == 16 ? 19 + 32768 : LEAST);
                due("below 0 by its highest bit", x.which(sheet, 0), 97);
            }
        }
    }

    private static OldLight threeCells(int bits, String digits) {
        OldLight x = new OldLight();
        x.bay(3);
        Made.row(x, 2, bits, digits);
        return x;
    }

    private static void whichBeyond() {
        of(21, "BEYOND.");
        bounds(() -> {
            OldLight x = threeCells(8, "555");
            Made.row(x, 0, 16, "555");
            Made.row(x, 3, 32, "555");
            return x;
        }, "which(%d, 1)", 0, 3, (x, v) -> x.which(v, 1));
        bounds(() -> threeCells(8, "555"), "which(2, %d)", 0, 1, (x, v) -> x.which(2, v));
        for (int what : outside(0, 1)) {
            refused(Made::fresh, "which(0, " + what + "), BEYOND first", x -> x.which(0, what), BEYOND);
        }
    }

    private static void whichNone() {
        of(21, "NONE: the SHEET is missing, has not as many numbers as there are CELLS; (what 1) there is none.");
        for (int what = 0; what <= 1; what++) {
            int told = what;
            refused(Made::fresh, "which(2, " + what + ") of a missing one", x -> x.which(2, told), NONE);
            for (String digits : new String[] {"", "5", "55", "5555", "55555555", "5".repeat(40)}) {
                refused(() -> threeCells(8, digits), "which(2, " + what + ") of " + digits, x -> x.which(2, told), NONE);
            }
            refused(() -> {
                OldLight x = threeCells(8, "555");
                x.sheet(2, 0, 3);
                return x;
            }, "which(2, " + what + ") of one that is missing again", x -> x.which(2, told), NONE);
            taken(() -> threeCells(8, "555"), "which(2, " + what + ")", x -> x.which(2, told));
        }
        refused(() -> threeCells(8, "556"), "which(2, 1) with none", x -> x.which(2, 1), NONE);
        due("how many there are", threeCells(8, "556").which(2, 0), 0);
        taken(() -> threeCells(8, "556"), "which(2, 0) with none", x -> x.which(2, 0));
    }

    // ---- Promise 22

    private static void struckSets() {
        of(22, "STRUCK.");
        OldLight x = Made.silted();
        row("without SHIPS, CELL", x::struck, 0, 0, 0, 0, 0, 0, 0, 0, BEYOND);
        for (int i = 0; i < 7; i++) {
            x.ship(0, 4, 7);
        }
        row("all by one, CELL", x::struck, 0, 0, 0, 0, 0, 0, 127, 0, BEYOND);
        for (int i = 0; i < 7; i++) {
            x.change(i, 1, i + 1);
        }
        row("one each, CELL", x::struck, 1, 2, 4, 8, 16, 32, 64, 0, BEYOND);
    }

    private static void struckBeyond() {
        of(22, "BEYOND.");
        bounds(Made::laden, "struck(%d)", 0, 5, OldLight::struck);
        bounds(Made::fresh, "struck(%d)", 0, 7, OldLight::struck);
    }

    // ---- Promise 23

    private static void darkSet() {
        of(23, "DARK: the set.");
        for (int cell = 0; cell < 8; cell++) {
            OldLight x = Made.silted();
            if (cell < 7) {
                x.ship(0, 4, cell + 1);
            }
            due("by CELL " + cell, x.dark(1), cell < 7 ? 1 << cell : 0);
            x.set(2, 255 - (1 << cell));
            due("not by CELL " + cell + " out of BEAM", x.dark(1), 0);
        }
    }

    private static void darkBeyond() {
        of(23, "BEYOND.");
        bounds(Made::fresh, "dark(%d)", 0, 20, OldLight::dark);
        bounds(Made::laden, "dark(%d)", 0, 20, OldLight::dark);
        for (int n : outside(0, 20)) {
            refused(ThoughtSentences::strikesInTheDark, "dark(" + n + "), BEYOND first", x -> x.dark(n), BEYOND);
        }
    }

    /** A COLLIER that strikes by its own reckoning in the second HOUR, with no CELL in BEAM. */
    private static OldLight strikesInTheDark() {
        OldLight x = Made.silted(new int[] {12, 4, 3});
        x.set(2, 0);
        Expect.text(x, 0, "2+4*(c=2)");
        return x;
    }

    private static void darkNone() {
        of(23, "NONE: by none.");
        due("not in 0", strikesInTheDark().dark(0), 0);
        due("not in 1", strikesInTheDark().dark(1), 0);
        refused(ThoughtSentences::strikesInTheDark, "dark(2)", x -> x.dark(2), NONE);
        refused(ThoughtSentences::strikesInTheDark, "dark(20)", x -> x.dark(20), NONE);
        refused(() -> {
            OldLight x = strikesInTheDark();
            x.set(2, 255);
            return x;
        }, "dark(20) with all in BEAM", x -> x.dark(20), NONE);
        OldLight y = strikesInTheDark();
        y.change(0, 2, 1);
        due("it is LOST now", y.dark(20), 0);
    }

    // ---- Promise 24

    private static void deepV() {
        of(24, "DEEP v (0 to 19).");
        OldLight x = new OldLight();
        Expect.law(x, 0, "200-y");
        for (int v = 0; v <= 19; v++) {
            due("deep " + v, x.deep(3, v), v);
        }
        Expect.law(x, 0, "0");
        due("deep 0", x.deep(3, 0), 0);
        due("deep 1", x.deep(3, 1), NONE);
        Expect.law(x, 0, "9999");
        due("deep 19", x.deep(3, 19), 0);
    }

    private static void deepBeyond() {
        of(24, "BEYOND.");
        bounds(Made::laden, "deep(%d, 0)", 0, 5, (x, v) -> x.deep(v, 0));
        bounds(Made::fresh, "deep(%d, 19)", 0, 7, (x, v) -> x.deep(v, 19));
        bounds(Made::laden, "deep(5, %d)", 0, 19, (x, v) -> x.deep(5, v));
        for (int cell : outside(0, 5)) {
            refused(Made::laden, "deep(" + cell + ", 19), BEYOND first", x -> x.deep(cell, 19), BEYOND);
        }
    }

    private static void deepNone() {
        of(24, "NONE: not in these.");
        for (int v : new int[] {6, 18, 19}) {
            refused(Made::fresh, "deep(7, " + v + ")", x -> x.deep(7, v), NONE);
        }
        due("just as deep", new OldLight().deep(7, 5), 0);
        refused(() -> {
            OldLight x = new OldLight();
            Expect.text(x, 0, "9*(y<101)");
            return x;
        }, "deep(7, 9), 100 YEARS ago", x -> x.deep(7, 9), NONE);
        OldLight y = new OldLight();
        Expect.law(y, 0, "9*(y<102)");
        due("99 YEARS ago", y.deep(7, 9), 99);
    }

    // ---- Promise 25

    private static void drawsOfOne() {
        of(25, "DRAWS.");
        OldLight x = new OldLight();
        Expect.law(x, 0, "c+3");
        Made.ships(x, new int[] {0, 9, 7}, new int[] {12, 9, 7}, new int[] {42, 9, 1}, new int[] {40, 9, 7}, new int[] {60, 9, 0});
        row("SHIP", x::draws, 3, 4, 4, 2, 9, BEYOND);
        x.lay(0, 1, 200);
        x.lay(0, 2, 200);
        row("a ROCK AT 0, SHIP", x::draws, 0, 2, 1, NONE, 9, BEYOND);
    }

    private static void drawsBeyond() {
        of(25, "BEYOND.");
        refused(Made::fresh, "draws(0) without SHIPS", x -> x.draws(0), BEYOND);
        bounds(Made::allIn, "draws(%d)", 0, 6, OldLight::draws);
        for (int ship : outside(0, 2)) {
            refused(Made::laden, "draws(" + ship + ")", x -> x.draws(ship), BEYOND);
        }
    }

    private static void drawsState() {
        of(25, "STATE: the SHIP is LOST.");
        for (int cell : new int[] {0, 1, 7}) {
            refused(() -> {
                OldLight x = Made.silted(new int[] {20, 2, 7}, new int[] {20, 2, cell});
                x.change(1, 2, 1);
                return x;
            }, "draws(1), LOST AT " + cell, x -> x.draws(1), STATE);
        }
        refused(() -> {
            OldLight x = Made.silted(new int[] {40, 2, 3});
            Expect.text(x, 0, "0");
            x.change(0, 2, 1);
            return x;
        }, "draws(0), with none: STATE first", x -> x.draws(0), STATE);
        OldLight y = Made.silted(new int[] {20, 2, 7}, new int[] {20, 2, 1});
        y.change(1, 2, 1);
        due("another one isn't", y.draws(0), 2);
    }

    private static void drawsNone() {
        of(25, "NONE: with none.");
        refused(() -> {
            OldLight x = Made.silted(new int[] {40, 2, 3});
            Expect.text(x, 0, "0");
            return x;
        }, "draws(0) of a CUTTER over nothing", x -> x.draws(0), NONE);
        OldLight y = Made.silted(new int[] {20, 2, 3});
        Expect.law(y, 0, "0");
        due("a ROWER over nothing", y.draws(0), 0);
    }

    // ---- Promise 26

    private static void trafficWhat() {
        of(26, "TRAFFIC: what 0 the CELL, 1 how many.");
        OldLight x = new OldLight();
        Made.ships(x, new int[] {0, 5, 7}, new int[] {0, 5, 7}, new int[] {0, 5, 3});
        int[][] rows = {{0, 7, 2}, {1, 6, 2}, {3, 4, 2}, {6, 1, 2}, {7, 0, 3}, {60, 0, 3}};
        for (int[] a : rows) {
            due("traffic(" + a[0] + ", 0)", x.traffic(a[0], 0), a[1]);
            due("traffic(" + a[0] + ", 1)", x.traffic(a[0], 1), a[2]);
        }
    }

    private static void trafficBeyond() {
        of(26, "BEYOND.");
        bounds(Made::laden, "traffic(%d, 0)", 0, 60, (x, v) -> x.traffic(v, 0));
        bounds(Made::fresh, "traffic(%d, 1)", 0, 60, (x, v) -> x.traffic(v, 1));
        bounds(Made::laden, "traffic(60, %d)", 0, 1, (x, v) -> x.traffic(60, v));
    }

    // ---- Promise 27

    private static void oddsParts() {
        of(27, "ODDS: part 0 above, 1 below the line.");
        OldLight x = Made.silted(new int[] {0, 6, 1}, new int[] {0, 6, 0}, new int[] {0, 7, 1}, new int[] {20, 2, 7}, new int[] {0, 6, 0});
        x.change(4, 2, 1);
        int[][] rows = {{0, 0, 0, 1}, {0, 1, 1, 2}, {0, 60, 1, 2}, {1, 0, 1, 1}, {1, 60, 1, 1}, {2, 60, 0, 1}, {3, 6, 0, 1}, {3, 7, 1, 1},
            {4, 0, 1, 1}};
        for (int[] a : rows) {
            due("odds(" + a[0] + ", " + a[1] + ", 0)", x.odds(a[0], a[1], 0), a[2]);
            due("odds(" + a[0] + ", " + a[1] + ", 1)", x.odds(a[0], a[1], 1), a[3]);
        }
    }

    private static void oddsBeyond() {
        of(27, "BEYOND.");
        refused(Made::fresh, "odds(0, 0, 0) without SHIPS", x -> x.odds(0, 0, 0), BEYOND);
        bounds(Made::laden, "odds(%d, 5, 0)", 0, 2, (x, v) -> x.odds(v, 5, 0));
        bounds(Made::sevenShips, "odds(%d, 5, 1)", 0, 6, (x, v) -> x.odds(v, 5, 1));
        bounds(Made::laden, "odds(1, %d, 0)", 0, 60, (x, v) -> x.odds(1, v, 0));
        bounds(Made::laden, "odds(2, 60, %d)", 0, 1, (x, v) -> x.odds(2, 60, v));
    }
}
