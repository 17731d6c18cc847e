/** Sentences on the bay and the lens: of the Terms, and of promises 2 to 5. */
final class BaySentences extends Sentence {
    static void all() {
        cells();
        harbour();
        rock();
        year();
        back();
        beam();
        depth();
        trueDepth();
        shown();
        bay();
        bayRenewsAll();
        bayLeavesTheRest();
        bayBeyond();
        bayState();
        lay();
        layOneAlone();
        layBeyond();
        ofCell();
        ofCellSets();
        ofCellBeyond();
        set();
        setBeyond();
    }

    // ---- the Terms

    private static void cells() {
        term("CELLS 0 .. n - 1 (n 3 to 8; 8 at first), 0 the harbour, each with a BED (0 to 9; 5 at first), a ROCK from a"
            + " YEAR till another one (both with it; at first from 1 till 0: none).");
        due("at first", new OldLight().count(0), 8);
        for (int n = 3; n <= 8; n++) {
            OldLight x = bayOf(n);
            due("CELL " + (n - 1) + " of " + n, x.lay(n - 1, 0, 9), 5);
            due("CELL " + n + " of " + n, x.lay(n, 0, 9), BEYOND);
            due("a SHIP AT the last", x.ship(0, 0, n - 1), 0);
            due("a SHIP AT one more", x.ship(0, 0, n), BEYOND);
            due("the last of BEAM", x.set(2, 1 << n - 1), 0);
            due("one more of BEAM", x.set(2, 1 << n), BEYOND);
        }
        due("too few CELLS", new OldLight().bay(2), BEYOND);
        due("too many CELLS", new OldLight().bay(9), BEYOND);
        OldLight y = new OldLight();
        due("the least BED", y.lay(0, 0, 0), 5);
        due("the greatest BED", y.lay(0, 0, 9), 0);
        due("below it", y.lay(0, 0, -1), BEYOND);
        due("above it", y.lay(0, 0, 10), BEYOND);
        due("it stays", y.ofCell(0, 0), 9);
    }

    private static OldLight bayOf(int n) {
        OldLight x = new OldLight();
        x.bay(n);
        return x;
    }

    private static void harbour() {
        term("0 the harbour");
        OldLight x = new OldLight();
        Made.ships(x, new int[] {0, 5, 1}, new int[] {0, 5, 2});
        due("AT 0 behind an HOUR", x.hours(1), 1);
        due("the other one, too", x.hours(1), 2);
        due("there they stay", x.hours(60), 2);
    }

    private static void rock() {
        term("a ROCK from a YEAR till another one (both with it; at first from 1 till 0: none)");
        OldLight x = new OldLight();
        due("at first, YEAR 0", x.depth(3, 0), 5);
        due("at first, YEAR 1", x.depth(3, 1), 5);
        x.lay(3, 1, 150);
        x.lay(3, 2, 160);
        int[][] years = {{149, 5}, {150, 0}, {151, 0}, {159, 0}, {160, 0}, {161, 5}};
        for (int[] a : years) {
            due("YEAR " + a[0], x.depth(3, a[0]), a[1]);
            due("YEAR " + a[0] + " of another CELL", x.depth(2, a[0]), 5);
        }
        x.lay(3, 1, 160);
        due("one YEAR alone, ahead", x.depth(3, 159), 5);
        due("one YEAR alone", x.depth(3, 160), 0);
        due("one YEAR alone, behind", x.depth(3, 161), 5);
        x.lay(3, 1, 161);
        due("till the YEAR ahead: none", x.depth(3, 160), 5);
        due("from the YEAR behind: none", x.depth(3, 161), 5);
        x.lay(3, 1, 0);
        x.lay(3, 2, 0);
        due("from 0 till 0, YEAR 0", x.depth(3, 0), 0);
        due("from 0 till 0, YEAR 1", x.depth(3, 1), 5);
        due("from 0 till 0, a YEAR below 0", x.depth(3, -1), 0);
        x.lay(3, 1, 999);
        x.lay(3, 2, 999);
        due("from 999 till 999, YEAR 998", x.depth(3, 998), 5);
        due("from 999 till 999, YEAR 999", x.depth(3, 999), 0);
    }

    private static void year() {
        term("YEAR (0 to 999; 200 at first).");
        bounds(Made::fresh, "set(0, %d)", 0, 999, (x, v) -> x.set(0, v));
        OldLight x = new OldLight();
        Expect.law(x, 0, "y=0|(y=999)*2");
        due("at first", x.set(0, 0), 200);
        due("in YEAR 0", x.ofCell(4, 3), 1);
        due("in YEAR 0, it was", x.set(0, 999), 0);
        Expect.law(x, 0, "(y=0)+(y=999)*2");
        due("in YEAR 999", x.ofCell(4, 3), 2);
    }

    private static void back() {
        term("BACK (0 to 99: how the lens is set; 0 at first).");
        bounds(Made::fresh, "set(1, %d)", 0, 99, (x, v) -> x.set(1, v));
        OldLight x = new OldLight();
        Expect.law(x, 0, "200-y-85*(y<150)");
        x.set(2, 2);
        due("SHOWN at first", x.ofCell(1, 4), 0);
        due("at first", x.set(1, 99), 0);
        due("SHOWN 99 YEARS back", x.ofCell(1, 4), 14);
        due("it was", x.set(1, 0), 99);
        due("SHOWN 0 YEARS back", x.ofCell(1, 4), 0);
    }

    private static void beam() {
        term("BEAM: a set of CELLS (none at first).");
        OldLight x = new OldLight();
        Expect.law(x, 0, "y=190");
        x.set(1, 10);
        for (int cell = 0; cell < 8; cell++) {
            due("CELL " + cell + " at first", x.ofCell(cell, 4), 0);
        }
        for (int lit = 0; lit < 8; lit++) {
            x.set(2, 1 << lit);
            for (int cell = 0; cell < 8; cell++) {
                due("CELL " + cell + ", " + lit + " alone in BEAM", x.ofCell(cell, 4), cell == lit ? 1 : 0);
            }
        }
        x.set(2, 255);
        row("all in BEAM, CELL", cell -> x.ofCell(cell, 4), 1, 1, 1, 1, 1, 1, 1, 1);
        x.set(2, 0);
        row("none in BEAM, CELL", cell -> x.ofCell(cell, 4), 0, 0, 0, 0, 0, 0, 0, 0);
    }

    private static void depth() {
        term("DEPTH of a CELL in a YEAR (of 0 in place of one below): 0, if there is a ROCK then; else what the TEXT gives"
            + " for its number, that YEAR, its BED.");
        OldLight x = new OldLight();
        Expect.law(x, 0, "3+y");
        due("YEAR 0", x.depth(2, 0), 3);
        due("a YEAR below 0", x.depth(2, -1), 3);
        due("99 below 0", x.depth(2, -99), 3);
        due("YEAR 1", x.depth(2, 1), 4);
        due("YEAR 16", x.depth(2, 16), 19);
        due("YEAR 17: held", x.depth(2, 17), 19);
        x.lay(2, 1, 0);
        x.lay(2, 2, 7);
        due("a ROCK from 0, a YEAR below 0", x.depth(2, -99), 0);
        due("a ROCK till 7", x.depth(2, 7), 0);
        due("behind the ROCK", x.depth(2, 8), 11);
        x.lay(2, 1, 1);
        due("a ROCK from 1, a YEAR below 0", x.depth(2, -1), 3);
        Expect.law(x, 0, "c*2");
        row("the number of CELL", cell -> x.depth(cell, 500), 0, 2, 4, 6, 8, 10, 12, 14, BEYOND);
        Expect.law(x, 0, "b*2-y");
        x.lay(7, 0, 9);
        due("its BED", x.depth(7, 0), 18);
        x.lay(7, 0, 0);
        due("its BED, held", x.depth(7, 3), 0);
    }

    private static void trueDepth() {
        term("TRUE: in this YEAR.");
        OldLight x = new OldLight();
        Expect.law(x, 0, "(y=0)*3+(y=999)*8+(y=998)");
        x.set(1, 1);
        x.set(2, 255);
        x.set(0, 999);
        due("in YEAR 999", x.ofCell(0, 3), 8);
        x.set(0, 998);
        due("in YEAR 998", x.ofCell(0, 3), 1);
        x.set(0, 0);
        due("in YEAR 0", x.ofCell(0, 3), 3);
    }

    private static void shown() {
        term("SHOWN with the lens set so many YEARS back: in the YEAR so many ahead of this one, if BEAM has the CELL; else"
            + " TRUE.");
        OldLight x = new OldLight();
        Expect.law(x, 0, "(y<41)*y%20");
        x.set(0, 30);
        x.set(2, 128);
        int[][] backs = {{0, 10}, {1, 9}, {10, 0}, {11, 19}, {29, 1}, {30, 0}, {31, 0}, {99, 0}};
        for (int[] a : backs) {
            x.set(1, a[0]);
            due(a[0] + " back", x.ofCell(7, 4), a[1]);
            due(a[0] + " back, out of BEAM", x.ofCell(6, 4), 10);
        }
        Expect.law(x, 0, "y");
        x.lay(7, 1, 0);
        x.lay(7, 2, 0);
        x.set(1, 29);
        due("just ahead of YEAR 0", x.ofCell(7, 4), 1);
        x.set(1, 31);
        due("the ROCK of YEAR 0 below it", x.ofCell(7, 4), 0);
    }

    // ---- Promise 2

    private static void bay() {
        of(2, "There are n CELLS, each with BED 5, no ROCK, BEAM has none: how many there were.");
        OldLight x = new OldLight();
        int were = 8;
        for (int n : new int[] {8, 3, 3, 8, 4, 5, 6, 7}) {
            due("bay(" + n + ")", x.bay(n), were);
            due("CELLS", x.count(0), n);
            due("the last", x.ofCell(n - 1, 0), 5);
            due("one more", x.ofCell(n, 0), BEYOND);
            were = n;
        }
    }

    private static void bayRenewsAll() {
        of(2, "There are n CELLS, each with BED 5, no ROCK, BEAM has none: how many there were.");
        for (int n = 3; n <= 8; n++) {
            OldLight x = new OldLight();
            for (int cell = 0; cell < 8; cell++) {
                x.lay(cell, 0, 9 - cell);
                x.lay(cell, 1, 0);
                x.lay(cell, 2, 999);
            }
            x.set(2, 255);
            x.bay(n);
            due("BEAM", x.count(5), 0);
            x.bay(8);
            for (int cell = 0; cell < 8; cell++) {
                row("of CELL " + cell, ofCell(x, cell), 5, 1, 0, 5, 5, 0);
            }
        }
        OldLight y = new OldLight();
        y.lay(2, 0, 9);
        y.lay(2, 1, 0);
        y.lay(2, 2, 999);
        y.set(2, 255);
        due("as many as there were", y.bay(8), 8);
        row("of CELL 2", ofCell(y, 2), 5, 1, 0, 5, 5, 0);
        due("BEAM", y.count(5), 0);
    }

    private static java.util.function.Function<Integer, Integer> ofCell(OldLight x, int cell) {
        return what -> x.ofCell(cell, what);
    }

    private static void bayLeavesTheRest() {
        of(2, "There are n CELLS, each with BED 5, no ROCK, BEAM has none: how many there were.");
        OldLight x = new OldLight();
        x.set(0, 777);
        x.set(1, 88);
        Expect.law(x, 0, "b+c");
        Expect.law(x, 1, "d>m");
        Expect.feed(x, "b*2");
        x.hours(7);
        x.seed(-6);
        x.tell(3);
        Made.row(x, 1, 16, "77");
        x.bay(4);
        row("count", x::count, 4, 0, 7, 777, 88, 0, 0, 0, 3, 1, 0, -6);
        due("DEPTH's TEXT", x.law(0, 1, 2, 3), 4);
        due("ELSE's TEXT", x.law(1, 5, 4, 0), 1);
        due("THE TAPE", x.text(0), 1);
        due("a SHEET", x.beds(1), 2);
        due("the number that waits", x.check(), 1);
    }

    private static void bayBeyond() {
        of(2, "BEYOND.");
        bounds(Made::fresh, "bay(%d)", 3, 8, OldLight::bay);
        bounds(() -> {
            OldLight x = new OldLight();
            x.bay(3);
            x.lay(2, 0, 8);
            x.lay(1, 2, 400);
            x.set(2, 5);
            return x;
        }, "bay(%d) of three", 3, 8, OldLight::bay);
    }

    private static void bayState() {
        of(2, "STATE: there are SHIPS.");
        for (int n = 3; n <= 8; n++) {
            int many = n;
            refused(Made::laden, "bay(" + n + ")", x -> x.bay(many), STATE);
            refused(Made::sevenShips, "bay(" + n + ")", x -> x.bay(many), STATE);
        }
        refused(() -> Made.silted(new int[] {0, 0, 0}), "bay(8) with one AT 0", x -> x.bay(8), STATE);
        refused(() -> {
            OldLight x = Made.silted(new int[] {0, 0, 5});
            x.change(0, 2, 1);
            return x;
        }, "bay(8) with one that is LOST", x -> x.bay(8), STATE);
        for (int n : outside(3, 8)) {
            refused(Made::laden, "bay(" + n + "), BEYOND first", x -> x.bay(n), BEYOND);
        }
        OldLight y = new OldLight();
        y.image();
        y.ship(0, 0, 0);
        y.restore();
        due("none any more", y.bay(3), 8);
    }

    // ---- Promise 3

    private static void lay() {
        of(3, "BED (what 0), from when (1), till when (2: 0 to 999 either) a ROCK is there, of a CELL becomes v: what it"
            + " was.");
        for (int cell : new int[] {0, 7}) {
            OldLight x = new OldLight();
            due("the greatest BED", x.lay(cell, 0, 9), 5);
            due("the least BED", x.lay(cell, 0, 0), 9);
            due("BED as it is", x.lay(cell, 0, 0), 0);
            due("from 999", x.lay(cell, 1, 999), 1);
            due("from 0", x.lay(cell, 1, 0), 999);
            due("till 999", x.lay(cell, 2, 999), 0);
            due("till 0", x.lay(cell, 2, 0), 999);
            due("till 998", x.lay(cell, 2, 998), 0);
            row("of CELL " + cell, ofCell(x, cell), 0, 0, 998);
            due("DEPTH of YEAR 998", x.depth(cell, 998), 0);
            x.lay(cell, 0, 7);
            due("DEPTH of YEAR 998", x.depth(cell, 998), 0);
            due("DEPTH of YEAR 999", x.depth(cell, 999), 7);
        }
    }

    private static void layOneAlone() {
        of(3, "of a CELL becomes v: what it was.");
        for (int cell = 0; cell < 8; cell++) {
            for (int what = 0; what < 3; what++) {
                OldLight x = new OldLight();
                x.lay(cell, what, 9);
                for (int other = 0; other < 8; other++) {
                    int[] first = {5, 1, 0};
                    first[what] = other == cell ? 9 : first[what];
                    row("lay(" + cell + ", " + what + ", 9), of CELL " + other, ofCell(x, other), first);
                }
            }
        }
        OldLight y = Made.silted(new int[] {0, 5, 3});
        due("with SHIPS", y.lay(3, 0, 1), 5);
        row("where the SHIP is", ofCell(y, 3), 1, 1, 0, 2, 6, 1);
    }

    private static void layBeyond() {
        of(3, "BEYOND.");
        bounds(Made::fresh, "lay(%d, 0, 9)", 0, 7, (x, v) -> x.lay(v, 0, 9));
        bounds(Made::laden, "lay(%d, 1, 0)", 0, 5, (x, v) -> x.lay(v, 1, 0));
        bounds(() -> bayOf(3), "lay(%d, 2, 999)", 0, 2, (x, v) -> x.lay(v, 2, 999));
        bounds(Made::laden, "lay(5, %d, 9)", 0, 2, (x, v) -> x.lay(5, v, 9));
        bounds(Made::laden, "lay(0, 0, %d)", 0, 9, (x, v) -> x.lay(0, 0, v));
        bounds(Made::laden, "lay(0, 1, %d)", 0, 999, (x, v) -> x.lay(0, 1, v));
        bounds(Made::laden, "lay(0, 2, %d)", 0, 999, (x, v) -> x.lay(0, 2, v));
    }

    // ---- Promise 4

    private static void ofCell() {
        of(4, "Of a CELL: 0 BED, 1 from when, 2 till when a ROCK, 3 TRUE, 4 SHOWN, 5 SHIPS AT it, as a set.");
        OldLight x = new OldLight();
        x.lay(7, 0, 9);
        x.lay(7, 1, 101);
        x.lay(7, 2, 101);
        x.set(1, 99);
        row("CELL 7, its ROCK just in reach, out of BEAM", ofCell(x, 7), 9, 101, 101, 9, 9, 0);
        x.set(2, 127);
        row("all other CELLS in BEAM", ofCell(x, 7), 9, 101, 101, 9, 9, 0);
        x.set(2, 128);
        row("in BEAM", ofCell(x, 7), 9, 101, 101, 9, 0, 0);
        x.set(0, 201);
        row("its ROCK just out of reach", ofCell(x, 7), 9, 101, 101, 9, 9, 0);
        x.set(0, 101);
        x.set(1, 0);
        row("in the ROCK's YEAR", ofCell(x, 7), 9, 101, 101, 0, 0, 0);
        Expect.law(x, 0, "b*3");
        row("held", ofCell(x, 0), 5, 1, 0, 15, 15, 0);
        x.lay(0, 0, 9);
        row("held", ofCell(x, 0), 9, 1, 0, 19, 19, 0);
    }

    private static void ofCellSets() {
        of(4, "5 SHIPS AT it, as a set.");
        OldLight x = new OldLight();
        row("no SHIPS, CELL", cell -> x.ofCell(cell, 5), 0, 0, 0, 0, 0, 0, 0, 0);
        for (int ship = 0; ship < 7; ship++) {
            x.ship(10 * ship, 9, 7);
        }
        row("all AT the last, CELL", cell -> x.ofCell(cell, 5), 0, 0, 0, 0, 0, 0, 0, 127);
        for (int ship = 0; ship < 7; ship++) {
            x.change(ship, 1, ship);
        }
        row("one each, CELL", cell -> x.ofCell(cell, 5), 1, 2, 4, 8, 16, 32, 64, 0);
        x.change(6, 1, 0);
        x.change(6, 2, 1);
        row("one LOST AT 0, CELL", cell -> x.ofCell(cell, 5), 65, 2, 4, 8, 16, 32, 0, 0);
    }

    private static void ofCellBeyond() {
        of(4, "BEYOND.");
        for (int what = 0; what <= 5; what++) {
            int told = what;
            bounds(Made::laden, "ofCell(%d, " + what + ")", 0, 5, (x, v) -> x.ofCell(v, told));
        }
        bounds(Made::fresh, "ofCell(%d, 3)", 0, 7, (x, v) -> x.ofCell(v, 3));
        bounds(() -> bayOf(3), "ofCell(%d, 4)", 0, 2, (x, v) -> x.ofCell(v, 4));
        bounds(Made::laden, "ofCell(0, %d)", 0, 5, (x, v) -> x.ofCell(0, v));
        bounds(Made::laden, "ofCell(5, %d)", 0, 5, (x, v) -> x.ofCell(5, v));
    }

    // ---- Promise 5

    private static void set() {
        of(5, "YEAR (what 0), BACK (1), BEAM (2) becomes v: what it was.");
        OldLight x = new OldLight();
        int[][] rows = {{0, 999, 200}, {0, 0, 999}, {0, 1, 0}, {1, 99, 0}, {1, 0, 99}, {1, 98, 0}, {2, 255, 0}, {2, 0, 255},
            {2, 128, 0}, {2, 1, 128}};
        for (int[] a : rows) {
            due("set(" + a[0] + ", " + a[1] + ")", x.set(a[0], a[1]), a[2]);
        }
        row("count", x::count, 8, 0, 0, 1, 98, 1);
        for (int n = 3; n <= 8; n++) {
            OldLight y = bayOf(n);
            due("the greatest BEAM of " + n, y.set(2, (1 << n) - 1), 0);
            due("what it was", y.set(2, 0), (1 << n) - 1);
        }
    }

    private static void setBeyond() {
        of(5, "BEYOND.");
        bounds(Made::laden, "set(%d, 1)", 0, 2, (x, v) -> x.set(v, 1));
        bounds(Made::laden, "set(0, %d)", 0, 999, (x, v) -> x.set(0, v));
        bounds(Made::laden, "set(1, %d)", 0, 99, (x, v) -> x.set(1, v));
        for (int n = 3; n <= 8; n++) {
            int many = n;
            bounds(() -> bayOf(many), "set(2, %d) of " + n, 0, (1 << n) - 1, (x, v) -> x.set(2, v));
        }
    }
}
