/** Promises 6 to 10: ship, ofShip, change, become, as. */
public final class ShipTest {
    public static void main(String[] args) {
        promise06Ship();
        promise06Full();
        promise07OfShip();
        promise07Believes();
        promise07BelievesBelowNothing();
        promise08Change();
        promise09Become();
        promise10As();
        Expect.end();
    }

    private static void promise06Ship() {
        OldLight x = new OldLight();
        x.bay(3);
        int[][] beyond = {{-1, 0, 0}, {70, 0, 0}, {0, -1, 0}, {0, 10, 0}, {0, 0, -1}, {0, 0, 3}};
        for (int[] a : beyond) {
            Expect.due("ship(" + a[0] + ", " + a[1] + ", " + a[2] + ")", x.ship(a[0], a[1], a[2]), Expect.BEYOND);
        }
        Expect.due("count(1)", x.count(1), 0);
        Expect.due("ship(69, 9, 2)", x.ship(69, 9, 2), 0);
        Expect.due("ship(0, 0, 0)", x.ship(0, 0, 0), 1);
        int[][] due = {{6, 9, 9, 2, 0}, {0, 0, 0, 0, 0}};
        for (int ship = 0; ship < 2; ship++) {
            for (int what = 0; what < 5; what++) {
                Expect.due("ofShip(" + ship + ", " + what + ")", x.ofShip(ship, what), due[ship][what]);
            }
        }
    }

    private static void promise06Full() {
        OldLight x = new OldLight();
        for (int i = 0; i < 7; i++) {
            Expect.due("ship(" + (10 * i) + ", 1, 1)", x.ship(10 * i, 1, 1), i);
        }
        Expect.due("an eighth SHIP", x.ship(0, 0, 0), Expect.FULL);
        Expect.due("an eighth SHIP: BEYOND first", x.ship(0, 0, 8), Expect.BEYOND);
        Expect.due("count(1)", x.count(1), 7);
    }

    private static void promise07OfShip() {
        OldLight x = new OldLight();
        x.ship(34, 6, 5);
        int[] due = {3, 4, 6, 5, 0, 5};
        for (int what = 0; what < due.length; what++) {
            Expect.due("ofShip(0, " + what + ")", x.ofShip(0, what), due[what]);
        }
        int[][] beyond = {{-1, 0}, {1, 0}, {0, -1}, {0, 6}};
        for (int[] a : beyond) {
            Expect.due("ofShip(" + a[0] + ", " + a[1] + ")", x.ofShip(a[0], a[1]), Expect.BEYOND);
        }
        x.change(0, 1, 0);
        Expect.due("AT 0 it BELIEVES -1", x.ofShip(0, 5), -1);
        x.change(0, 1, 1);
        x.change(0, 2, 1);
        Expect.due("LOST it BELIEVES still", x.ofShip(0, 5), 5);
        Expect.due("whether LOST", x.ofShip(0, 4), 1);
    }

    /** DEPTH is now 3, 10 YEARS ago 7, 20 YEARS ago 2. */
    private static OldLight silting() {
        OldLight x = new OldLight();
        Expect.law(x, 0, "3*(y=200)+7*(y=190)+2*(y=180)");
        x.set(1, 10);
        return x;
    }

    private static void promise07Believes() {
        int[] lit = {7, 8, 3, 3, 7, 7, 2};
        int[] unlit = {3, 4, 3, 3, 3, 3, 3};
        for (int kind = 0; kind < 7; kind++) {
            OldLight x = silting();
            x.ship(10 * kind + 7, 1, 4);
            Expect.due("KIND " + kind + " out of BEAM", x.ofShip(0, 5), unlit[kind]);
            x.set(2, 16);
            Expect.due("KIND " + kind + ", only its own CELL in BEAM", x.ofShip(0, 5), unlit[kind]);
            x.set(2, 8);
            Expect.due("KIND " + kind + " in BEAM", x.ofShip(0, 5), lit[kind]);
        }
        OldLight y = silting();
        y.set(2, 255);
        y.ship(18, 1, 4);
        Expect.due("COLLIER, m 8", y.ofShip(0, 5), 9);
        y.become(0, 16);
        Expect.due("COLLIER, m 6", y.ofShip(0, 5), 7);
        y.become(0, 49);
        Expect.due("CUTTER, m 9", y.ofShip(0, 5), 6);
        y.set(1, 20);
        y.become(0, 50);
        Expect.due("SMUGGLER, SHOWN less", y.ofShip(0, 5), 3);
        y.become(0, 30);
        Expect.due("STEAMER, SHOWN less", y.ofShip(0, 5), 2);
        y.set(1, 99);
        y.become(0, 60);
        Expect.due("GHOST, 198 YEARS", y.ofShip(0, 5), 0);
    }

    private static void promise07BelievesBelowNothing() {
        OldLight x = new OldLight();
        x.lay(1, 0, 0);
        x.ship(40, 0, 2);
        Expect.due("CUTTER over BED 0", x.ofShip(0, 5), -1);
        x.hours(1);
        Expect.due("CUTTER with DRAFT 0 waits", x.ofShip(0, 3), 2);
        x.set(0, 5);
        x.set(1, 9);
        x.set(2, 255);
        Expect.law(x, 0, "y+2");
        x.become(0, 0);
        Expect.due("a YEAR below 0 is 0", x.ofShip(0, 5), 2);
    }

    private static void promise08Change() {
        OldLight x = new OldLight();
        x.bay(5);
        x.ship(0, 3, 2);
        Expect.due("change(0, 0, 9)", x.change(0, 0, 9), 3);
        Expect.due("change(0, 0, 0)", x.change(0, 0, 0), 9);
        Expect.due("change(0, 1, 4)", x.change(0, 1, 4), 2);
        Expect.due("change(0, 1, 0)", x.change(0, 1, 0), 4);
        Expect.due("change(0, 2, 1)", x.change(0, 2, 1), 0);
        Expect.due("change(0, 2, 0)", x.change(0, 2, 0), 1);
        int[][] beyond = {{-1, 0, 0}, {1, 0, 0}, {0, -1, 0}, {0, 3, 0}, {0, 0, -1}, {0, 0, 10}, {0, 1, -1},
            {0, 1, 5}, {0, 2, -1}, {0, 2, 2}};
        for (int[] a : beyond) {
            Expect.due("change(" + a[0] + ", " + a[1] + ", " + a[2] + ")", x.change(a[0], a[1], a[2]), Expect.BEYOND);
        }
        int[] due = {0, 0, 0, 0, 0};
        for (int what = 0; what < due.length; what++) {
            Expect.due("ofShip(0, " + what + ")", x.ofShip(0, what), due[what]);
        }
    }

    private static void promise09Become() {
        OldLight x = new OldLight();
        x.ship(23, 4, 5);
        x.change(0, 2, 1);
        Expect.due("become(0, 69)", x.become(0, 69), 2);
        Expect.due("become(0, 41)", x.become(0, 41), 6);
        int[] due = {4, 1, 4, 5, 1};
        for (int what = 0; what < due.length; what++) {
            Expect.due("ofShip(0, " + what + ")", x.ofShip(0, what), due[what]);
        }
        int[][] beyond = {{-1, 0}, {1, 0}, {0, -1}, {0, 70}};
        for (int[] a : beyond) {
            Expect.due("become(" + a[0] + ", " + a[1] + ")", x.become(a[0], a[1]), Expect.BEYOND);
        }
        Expect.due("KIND stays", x.ofShip(0, 0), 4);
    }

    private static void promise10As() {
        String[] under = {"0", "01", "02", "03", "014", "025", "036"};
        OldLight x = new OldLight();
        x.ship(0, 0, 0);
        for (int kind = 0; kind < 7; kind++) {
            x.become(0, 10 * kind + 8);
            for (int as = 0; as < 7; as++) {
                boolean is = under[kind].indexOf('0' + as) >= 0;
                Expect.due("KIND " + kind + " as " + as, x.as(0, as), is ? 8 : Expect.KIND);
            }
        }
        Expect.due("as(1, 0)", x.as(1, 0), Expect.BEYOND);
        Expect.due("as(-1, 0)", x.as(-1, 0), Expect.BEYOND);
        Expect.due("as(0, 7)", x.as(0, 7), Expect.BEYOND);
        Expect.due("as(0, -1)", x.as(0, -1), Expect.BEYOND);
    }
}
