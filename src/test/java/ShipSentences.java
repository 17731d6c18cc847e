import java.util.function.Function;

/** Sentences on ships: of the Terms, and of promises 6 to 10. */
final class ShipSentences extends Sentence {
    private static final int[] ABOVE = {0, 0, 0, 0, 1, 2, 3};

    static void all() {
        ships();
        shipBelieves();
        collierBelieves();
        rowerBelieves();
        steamerBelieves();
        cutterBelieves();
        smugglerBelieves();
        ghostBelieves();
        hourMoves();
        hourStrikes();
        hourElse();
        hourByNumbers();
        hourIsOneMore();
        ship();
        shipBeyond();
        shipFull();
        ofShip();
        ofShipBeyond();
        change();
        changeMatters();
        changeBeyond();
        become();
        becomeBeyond();
        as();
        asBeyond();
        asKind();
    }

    private static Function<Integer, Integer> ofShip(OldLight x, int ship) {
        return what -> x.ofShip(ship, what);
    }

    // ---- the Terms

    private static void ships() {
        term("SHIPS 0, 1, .. (at most 7), of KINDS: 0 SHIP; 1 COLLIER, 2 ROWER, 3 STEAMER under SHIP; 4 CUTTER under COLLIER;"
            + " 5 SMUGGLER under ROWER; 6 GHOST under STEAMER; with a number m (0 to 9), a DRAFT (0 to 9), AT a CELL, and"
            + " LOST (by striking) or not (at first).");
        OldLight x = new OldLight();
        for (int i = 0; i < 7; i++) {
            due("SHIP " + i, x.ship(10 * i + 9 * (i % 2), 9 * (i % 2), 7 * (i % 2)), i);
        }
        due("one more", x.ship(0, 0, 0), FULL);
        for (int i = 0; i < 7; i++) {
            row("of SHIP " + i, ofShip(x, i), i, 9 * (i % 2), 9 * (i % 2), 7 * (i % 2), 0);
            for (int kind = 0; kind < 7; kind++) {
                boolean under = kind == i || kind == 0 || kind == ABOVE[i];
                due("SHIP " + i + " as " + kind, x.as(i, kind), under ? 9 * (i % 2) : KIND);
            }
        }
        OldLight y = Made.silted(new int[] {0, 3, 1});
        due("not LOST at first", y.ofShip(0, 4), 0);
        y.hours(1);
        due("LOST by striking", y.ofShip(0, 4), 1);
    }

    /** DEPTH is so much now, so much BACK (5 YEARS) ago, so much twice BACK ago; CELL 2 alone is in BEAM. */
    private static OldLight lit(int now, int past, int older) {
        OldLight x = new OldLight();
        Expect.text(x, 0, now + "*(y=200)+" + past + "*(y=195)+" + older + "*(y=190)");
        x.set(1, 5);
        x.set(2, 4);
        return x;
    }

    /** What one of a KIND and m BELIEVES of CELL 2, which is in BEAM, and of CELL 1, which is not. */
    private static void believes(int km, int now, int past, int older, int inBeam, int outOfBeam) {
        OldLight x = lit(now, past, older);
        x.ship(km, 9, 3);
        String depths = km + ": of " + now + ", then " + past + ", then " + older;
        due(depths + ", in BEAM", x.ofShip(0, 5), inBeam);
        x.change(0, 1, 2);
        due(depths + ", out of BEAM", x.ofShip(0, 5), outOfBeam);
        x.set(2, 251);
        due(depths + ", in BEAM with all but CELL 2", x.ofShip(0, 5), inBeam);
        x.change(0, 1, 0);
        due(depths + ", AT 0", x.ofShip(0, 5), -1);
    }

    private static void shipBelieves() {
        term("BELIEVES (how deep a CELL is): SHIP: SHOWN.");
        believes(9, 3, 8, 5, 8, 3);
        believes(0, 8, 3, 5, 3, 8);
        believes(5, 0, 19, 5, 19, 0);
        believes(5, 19, 0, 5, 0, 19);
    }

    private static void collierBelieves() {
        term("COLLIER: SHOWN, and the rest of m by 3.");
        int[] rests = {0, 1, 2, 0, 1, 2, 0, 1, 2, 0};
        for (int m = 0; m < 10; m++) {
            believes(10 + m, 3, 8, 5, 8 + rests[m], 3 + rests[m]);
            believes(10 + m, 8, 3, 5, 3 + rests[m], 8 + rests[m]);
            believes(10 + m, 0, 19, 5, 19 + rests[m], rests[m]);
        }
    }

    private static void rowerBelieves() {
        term("ROWER: TRUE.");
        believes(29, 3, 8, 5, 3, 3);
        believes(20, 8, 3, 5, 8, 8);
        believes(22, 0, 19, 19, 0, 0);
        believes(22, 19, 0, 0, 19, 19);
    }

    private static void steamerBelieves() {
        term("STEAMER: the lesser of SHOWN and TRUE.");
        believes(39, 3, 8, 5, 3, 3);
        believes(30, 8, 3, 5, 3, 8);
        believes(32, 8, 8, 1, 8, 8);
        believes(32, 19, 0, 5, 0, 19);
        believes(32, 8, 7, 1, 7, 8);
        believes(32, 7, 8, 1, 7, 7);
    }

    private static void cutterBelieves() {
        term("CUTTER: as COLLIER, less 1.");
        int[] rests = {0, 1, 2, 0, 1, 2, 0, 1, 2, 0};
        for (int m = 0; m < 10; m++) {
            believes(40 + m, 3, 8, 5, 7 + rests[m], 2 + rests[m]);
            believes(40 + m, 19, 0, 5, rests[m] - 1, 18 + rests[m]);
        }
    }

    private static void smugglerBelieves() {
        term("SMUGGLER: the greater of what a ROWER believes and SHOWN.");
        believes(59, 3, 8, 5, 8, 3);
        believes(50, 8, 3, 5, 8, 8);
        believes(52, 8, 8, 9, 8, 8);
        believes(52, 8, 9, 1, 9, 8);
        believes(52, 9, 8, 1, 9, 9);
        believes(52, 0, 0, 19, 0, 0);
    }

    private static void ghostBelieves() {
        term("GHOST: as STEAMER, but SHOWN with twice BACK.");
        believes(69, 8, 3, 5, 5, 8);
        believes(60, 5, 1, 8, 5, 5);
        believes(62, 4, 1, 4, 4, 4);
        believes(62, 19, 19, 0, 0, 19);
        OldLight x = new OldLight();
        Expect.law(x, 0, "9-7*(y=2)-6*(y=0)");
        x.set(2, 255);
        x.ship(60, 9, 3);
        int[][] backs = {{98, 9}, {99, 2}};
        for (int[] a : backs) {
            x.set(1, a[0]);
            due("twice " + a[0] + " back", x.ofShip(0, 5), a[1]);
        }
        x.set(0, 198);
        due("YEAR 0", x.ofShip(0, 5), 3);
        x.set(0, 197);
        due("a YEAR below 0", x.ofShip(0, 5), 3);
        x.set(1, 0);
        due("0 back", x.ofShip(0, 5), 9);
    }

    private static void hourMoves() {
        term("An HOUR: each SHIP, by numbers, that is neither LOST nor AT 0: if it BELIEVES the next CELL (1 less) as deep as"
            + " its DRAFT, or deeper, it is AT that then, and LOST, if its TRUE DEPTH is less than DRAFT;");
        OldLight x = new OldLight();
        Made.ships(x, new int[] {20, 4, 3}, new int[] {20, 5, 3}, new int[] {20, 6, 3}, new int[] {0, 5, 1}, new int[] {0, 5, 0},
            new int[] {0, 5, 3}, new int[] {0, 0, 7});
        x.change(5, 2, 1);
        due("one comes in, one is there", x.hours(1), 2);
        row("AT, of SHIP", ship -> x.ofShip(ship, 3), 2, 2, 3, 0, 0, 3, 6);
        row("LOST, of SHIP", ship -> x.ofShip(ship, 4), 0, 0, 0, 0, 0, 1, 0);
        due("the rest comes in", x.hours(60), 5);
        row("AT, of SHIP", ship -> x.ofShip(ship, 3), 0, 0, 3, 0, 0, 3, 0);
        OldLight y = new OldLight();
        Expect.law(y, 0, "0");
        Made.ships(y, new int[] {0, 0, 3}, new int[] {0, 1, 3}, new int[] {40, 0, 3}, new int[] {41, 0, 3}, new int[] {12, 2, 3});
        y.hours(1);
        row("over nothing, AT, of SHIP", ship -> y.ofShip(ship, 3), 2, 3, 3, 2, 2);
        row("over nothing, LOST, of SHIP", ship -> y.ofShip(ship, 4), 0, 0, 0, 0, 1);
    }

    private static void hourStrikes() {
        term("and LOST, if its TRUE DEPTH is less than DRAFT");
        OldLight x = Made.silted(new int[] {0, 1, 3}, new int[] {0, 2, 3}, new int[] {0, 3, 3}, new int[] {0, 6, 3},
            new int[] {0, 7, 3}, new int[] {0, 3, 1}, new int[] {50, 3, 2});
        due("in by striking AT 0", x.hours(1), 1);
        row("AT, of SHIP", ship -> x.ofShip(ship, 3), 2, 2, 2, 2, 3, 0, 1);
        row("LOST, of SHIP", ship -> x.ofShip(ship, 4), 0, 0, 1, 1, 0, 1, 1);
        due("who is LOST stays", x.hours(5), 3);
        row("AT, of SHIP", ship -> x.ofShip(ship, 3), 0, 0, 2, 2, 3, 0, 1);
        OldLight y = new OldLight();
        y.lay(2, 1, 200);
        y.lay(2, 2, 200);
        y.set(1, 1);
        y.set(2, 4);
        Made.ships(y, new int[] {0, 0, 3}, new int[] {0, 1, 3}, new int[] {20, 1, 3});
        y.hours(1);
        row("by a ROCK, AT, of SHIP", ship -> y.ofShip(ship, 3), 2, 2, 3);
        row("by a ROCK, LOST, of SHIP", ship -> y.ofShip(ship, 4), 0, 1, 0);
    }

    private static void hourElse() {
        term("else the other TEXT tells what it does: 0 it waits; 1 it goes out by one CELL (if there is one).");
        OldLight x = new OldLight();
        x.bay(3);
        Expect.law(x, 1, "m");
        Made.ships(x, new int[] {0, 6, 1}, new int[] {1, 6, 1}, new int[] {2, 6, 2}, new int[] {9, 5, 2}, new int[] {9, 9, 0},
            new int[] {1, 6, 2});
        x.change(5, 2, 1);
        x.hours(1);
        row("AT, of SHIP", ship -> x.ofShip(ship, 3), 1, 2, 2, 1, 0, 2);
        x.lay(1, 0, 6);
        x.hours(1);
        row("in again, AT, of SHIP", ship -> x.ofShip(ship, 3), 1, 1, 1, 0, 0, 2);
        OldLight y = new OldLight();
        Expect.law(y, 1, "d=9&m=8&h=1");
        Made.ships(y, new int[] {8, 9, 6}, new int[] {8, 8, 6}, new int[] {7, 9, 6}, new int[] {8, 9, 7});
        y.hours(1);
        row("HOUR 0, AT, of SHIP", ship -> y.ofShip(ship, 3), 6, 6, 6, 7);
        y.hours(1);
        row("HOUR 1, AT, of SHIP", ship -> y.ofShip(ship, 3), 7, 6, 6, 7);
        y.hours(1);
        row("HOUR 2, AT, of SHIP", ship -> y.ofShip(ship, 3), 7, 6, 6, 7);
    }

    /** SHIPS go by numbers, and HOUR is the same for all of them. */
    private static void hourByNumbers() {
        term("each SHIP, by numbers");
        OldLight x = new OldLight();
        Expect.law(x, 1, "h=59");
        for (int i = 0; i < 7; i++) {
            x.ship(10 * i, 9, 3);
        }
        x.hours(59);
        row("AT, of SHIP", ship -> x.ofShip(ship, 3), 3, 3, 3, 3, 3, 3, 3);
        x.hours(1);
        row("AT, of SHIP", ship -> x.ofShip(ship, 3), 4, 4, 4, 4, 4, 4, 4);
    }

    private static void hourIsOneMore() {
        term("HOUR is 1 more.");
        OldLight x = new OldLight();
        x.hours(1);
        due("without SHIPS", x.count(2), 1);
        x.ship(0, 5, 3);
        x.hours(1);
        due("with one", x.count(2), 2);
        x.loose(1);
        due("by a draw", x.count(2), 3);
        for (int i = 0; i < 166; i++) {
            x.hours(60);
        }
        x.hours(35);
        due("ahead of the last", x.count(2), 9998);
        x.hours(1);
        due("the last", x.count(2), 9999);
        due("none more", x.hours(1), STATE);
    }

    // ---- Promise 6

    private static void ship() {
        of(6, "A SHIP (km: 10 times the KIND, and m) of a DRAFT AT a CELL: its number.");
        int[][] rows = {{0, 0, 0}, {9, 9, 7}, {10, 0, 7}, {19, 9, 0}, {60, 5, 1}, {69, 1, 6}, {35, 0, 0}};
        OldLight x = new OldLight();
        for (int i = 0; i < rows.length; i++) {
            due("its number", x.ship(rows[i][0], rows[i][1], rows[i][2]), i);
            due("SHIPS", x.count(1), i + 1);
        }
        for (int i = 0; i < rows.length; i++) {
            row("of SHIP " + i, ofShip(x, i), rows[i][0] / 10, rows[i][0] % 10, rows[i][1], rows[i][2], 0);
        }
        OldLight y = new OldLight();
        y.image();
        y.ship(61, 9, 7);
        y.change(0, 2, 1);
        y.restore();
        due("in place of one that is gone", y.ship(2, 3, 4), 0);
        row("of the new one", ofShip(y, 0), 0, 2, 3, 4, 0, 5);
    }

    private static void shipBeyond() {
        of(6, "BEYOND.");
        bounds(Made::laden, "ship(%d, 5, 5)", 0, 69, (x, v) -> x.ship(v, 5, 5));
        bounds(Made::laden, "ship(15, %d, 5)", 0, 9, (x, v) -> x.ship(15, v, 5));
        bounds(Made::laden, "ship(15, 5, %d)", 0, 5, (x, v) -> x.ship(15, 5, v));
        bounds(Made::fresh, "ship(0, 0, %d)", 0, 7, (x, v) -> x.ship(0, 0, v));
    }

    private static void shipFull() {
        of(6, "FULL.");
        OldLight x = new OldLight();
        for (int i = 0; i < 7; i++) {
            due("SHIP " + i, x.ship(0, 5, i), i);
        }
        due("an eighth", x.ship(0, 5, 7), FULL);
        due("SHIPS", x.count(1), 7);
        due("none is there", x.ofShip(7, 0), BEYOND);
        refused(Made::sevenShips, "ship(0, 0, 0)", y -> y.ship(0, 0, 0), FULL);
        refused(Made::sevenShips, "ship(69, 9, 5)", y -> y.ship(69, 9, 5), FULL);
        for (int v : new int[] {LEAST, -1, 70, GREATEST}) {
            refused(Made::sevenShips, "ship(" + v + ", 0, 0), BEYOND first", y -> y.ship(v, 0, 0), BEYOND);
            refused(Made::sevenShips, "ship(0, " + v + ", 0), BEYOND first", y -> y.ship(0, v, 0), BEYOND);
            refused(Made::sevenShips, "ship(0, 0, " + v + "), BEYOND first", y -> y.ship(0, 0, v), BEYOND);
        }
    }

    // ---- Promise 7

    private static void ofShip() {
        of(7, "Of a SHIP: 0 KIND, 1 m, 2 DRAFT, 3 AT, 4 whether LOST, 5 what it BELIEVES of the next CELL (-1: it is AT 0).");
        OldLight x = new OldLight();
        Expect.law(x, 0, "c*2+3");
        Made.ships(x, new int[] {0, 0, 0}, new int[] {69, 9, 7}, new int[] {47, 3, 1}, new int[] {18, 1, 4});
        row("of the first", ofShip(x, 0), 0, 0, 0, 0, 0, -1);
        row("AT the last CELL", ofShip(x, 1), 6, 9, 9, 7, 0, 15);
        row("AT CELL 1", ofShip(x, 2), 4, 7, 3, 1, 0, 3);
        row("of the last", ofShip(x, 3), 1, 8, 1, 4, 0, 11);
        x.change(3, 2, 1);
        row("LOST", ofShip(x, 3), 1, 8, 1, 4, 1, 11);
        x.change(3, 1, 0);
        row("LOST AT 0", ofShip(x, 3), 1, 8, 1, 0, 1, -1);
        Expect.law(x, 0, "0");
        x.become(2, 40);
        due("-1 of CELL 0 itself", x.ofShip(2, 5), -1);
        Expect.law(x, 0, "19");
        x.become(2, 12);
        due("more than any DEPTH", x.ofShip(2, 5), 21);
        OldLight y = new OldLight();
        y.bay(3);
        y.lay(2, 0, 1);
        y.lay(1, 0, 7);
        y.ship(20, 0, 2);
        due("of the next CELL, not of its own", y.ofShip(0, 5), 7);
    }

    private static void ofShipBeyond() {
        of(7, "BEYOND.");
        for (int what = 0; what <= 5; what++) {
            int told = what;
            refused(Made::fresh, "ofShip(0, " + what + ") without SHIPS", x -> x.ofShip(0, told), BEYOND);
            bounds(Made::laden, "ofShip(%d, " + what + ")", 0, 2, (x, v) -> x.ofShip(v, told));
        }
        bounds(Made::sevenShips, "ofShip(%d, 5)", 0, 6, (x, v) -> x.ofShip(v, 5));
        bounds(Made::laden, "ofShip(2, %d)", 0, 5, (x, v) -> x.ofShip(2, v));
    }

    // ---- Promise 8

    private static void change() {
        of(8, "DRAFT (what 0), AT (1), LOST (2: 0, 1) of a SHIP becomes v: what it was.");
        OldLight x = Made.sevenShips();
        for (int ship : new int[] {0, 6}) {
            x.change(ship, 0, 4);
            x.change(ship, 1, 3);
            x.change(ship, 2, 0);
            int[][] rows = {{0, 9, 4}, {0, 0, 9}, {0, 1, 0}, {1, 5, 3}, {1, 0, 5}, {1, 2, 0}, {2, 1, 0}, {2, 1, 1}, {2, 0, 1}};
            for (int[] a : rows) {
                due("change(" + ship + ", " + a[0] + ", " + a[1] + ")", x.change(ship, a[0], a[1]), a[2]);
            }
            row("of SHIP " + ship, what -> x.ofShip(ship, what + 2), 1, 2, 0);
        }
        OldLight y = Made.sevenShips();
        OldLight z = Made.sevenShips();
        y.change(3, 0, 9);
        y.change(3, 1, 0);
        y.change(3, 2, 1);
        for (int ship = 0; ship < 7; ship++) {
            for (int what = 0; what < 5; what++) {
                int[] changed = {0, 0, 9, 0, 1};
                boolean is = ship == 3 && what >= 2;
                due("ofShip(" + ship + ", " + what + ")", y.ofShip(ship, what), is ? changed[what] : z.ofShip(ship, what));
            }
        }
    }

    private static void changeMatters() {
        of(8, "DRAFT (what 0), AT (1), LOST (2: 0, 1) of a SHIP becomes v: what it was.");
        OldLight x = new OldLight();
        x.ship(0, 6, 2);
        x.hours(1);
        due("it waits", x.ofShip(0, 3), 2);
        x.change(0, 0, 5);
        x.hours(1);
        due("it goes", x.ofShip(0, 3), 1);
        x.change(0, 2, 1);
        due("it is LOST", x.hours(1), 0);
        x.change(0, 2, 0);
        due("it is not any more", x.hours(1), 1);
        x.change(0, 1, 7);
        due("it is AT the last CELL", x.hours(6), 0);
        due("and comes in again", x.hours(1), 1);
    }

    private static void changeBeyond() {
        of(8, "BEYOND.");
        refused(Made::fresh, "change(0, 0, 0) without SHIPS", x -> x.change(0, 0, 0), BEYOND);
        bounds(Made::laden, "change(%d, 0, 5)", 0, 2, (x, v) -> x.change(v, 0, 5));
        bounds(Made::sevenShips, "change(%d, 2, 1)", 0, 6, (x, v) -> x.change(v, 2, 1));
        bounds(Made::laden, "change(2, %d, 1)", 0, 2, (x, v) -> x.change(2, v, 1));
        bounds(Made::laden, "change(2, 0, %d)", 0, 9, (x, v) -> x.change(2, 0, v));
        bounds(Made::laden, "change(2, 1, %d)", 0, 5, (x, v) -> x.change(2, 1, v));
        bounds(Made::laden, "change(2, 2, %d)", 0, 1, (x, v) -> x.change(2, 2, v));
        bounds(() -> Made.silted(new int[] {0, 0, 0}), "change(0, 1, %d)", 0, 7, (x, v) -> x.change(0, 1, v));
    }

    // ---- Promise 9

    private static void become() {
        of(9, "A SHIP becomes one of a KIND, with m (km): the KIND that it was.");
        OldLight x = Made.sevenShips();
        int was = x.ofShip(6, 0);
        for (int km : new int[] {0, 9, 10, 69, 60, 59, 33, 33}) {
            due("become(6, " + km + ")", x.become(6, km), was);
            was = km / 10;
            row("of SHIP 6", ofShip(x, 6), km / 10, km % 10, 5, 4, 0);
        }
        row("KINDS of the others", ship -> x.ofShip(ship, 0), 1, 6, 2, 3, 4, 5);
        row("m of the others", ship -> x.ofShip(ship, 1), 4, 5, 7, 9, 9, 9);
        x.change(6, 2, 1);
        x.become(6, 0);
        due("it is LOST still", x.ofShip(6, 4), 1);
    }

    private static void becomeBeyond() {
        of(9, "BEYOND.");
        refused(Made::fresh, "become(0, 0) without SHIPS", x -> x.become(0, 0), BEYOND);
        bounds(Made::laden, "become(%d, 42)", 0, 2, (x, v) -> x.become(v, 42));
        bounds(Made::sevenShips, "become(%d, 42)", 0, 6, (x, v) -> x.become(v, 42));
        bounds(Made::laden, "become(1, %d)", 0, 69, (x, v) -> x.become(1, v));
    }

    // ---- Promise 10

    private static void as() {
        of(10, "A SHIP as one of a KIND: m.");
        OldLight x = new OldLight();
        x.ship(60, 0, 0);
        x.ship(3, 0, 0);
        for (int m = 0; m < 10; m++) {
            x.become(0, 60 + m);
            due("a GHOST", x.as(0, 6), m);
            due("as a STEAMER", x.as(0, 3), m);
            due("as a SHIP", x.as(0, 0), m);
        }
        due("a SHIP", x.as(1, 0), 3);
    }

    private static void asBeyond() {
        of(10, "BEYOND.");
        refused(Made::fresh, "as(0, 0) without SHIPS", x -> x.as(0, 0), BEYOND);
        bounds(Made::laden, "as(%d, 0)", 0, 2, (x, v) -> x.as(v, 0));
        bounds(Made::sevenShips, "as(%d, 0)", 0, 6, (x, v) -> x.as(v, 0));
        for (int kind : outside(0, 6)) {
            refused(Made::laden, "as(1, " + kind + ")", x -> x.as(1, kind), BEYOND);
        }
        taken(Made::laden, "as(1, 6)", x -> x.as(1, 6));
    }

    private static void asKind() {
        of(10, "KIND: it isn't of that KIND, nor of one under it.");
        for (int kind = 0; kind < 7; kind++) {
            for (int as = 0; as < 7; as++) {
                int km = 10 * kind + 7;
                int asked = as;
                if (as == kind || as == 0 || as == ABOVE[kind]) {
                    due(kind + " as " + as, Made.silted(new int[] {km, 0, 0}).as(0, as), 7);
                } else {
                    refused(() -> Made.silted(new int[] {km, 0, 0}), kind + " as " + as, x -> x.as(0, asked), KIND);
                }
            }
        }
    }
}
