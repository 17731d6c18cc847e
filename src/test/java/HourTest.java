/** Promises 14 to 16: hours, loose, depth. */
public final class HourTest {
    public static void main(String[] args) {
        promise14Hours();
        promise14Else();
        promise14Strikes();
        promise14LastHour();
        promise15Loose();
        promise15DrawsOneByOne();
        promise15LastHour();
        promise16Depth();
        Expect.end();
    }

    private static void promise14Hours() {
        OldLight x = new OldLight();
        x.ship(0, 5, 3);
        x.ship(0, 6, 3);
        x.ship(0, 5, 5);
        x.ship(0, 5, 0);
        x.ship(0, 5, 2);
        x.change(4, 2, 1);
        int[] beyond = {0, -1, 61, Integer.MIN_VALUE};
        for (int n : beyond) {
            Expect.due("hours(" + n + ")", x.hours(n), Expect.BEYOND);
        }
        Expect.due("HOUR", x.count(2), 0);
        Expect.due("hours(1)", x.hours(1), 1);
        int[] at = {2, 3, 4, 0, 2};
        for (int ship = 0; ship < at.length; ship++) {
            Expect.due("AT of " + ship, x.ofShip(ship, 3), at[ship]);
        }
        Expect.due("hours(2)", x.hours(2), 2);
        Expect.due("hours(60)", x.hours(60), 3);
        Expect.due("HOUR", x.count(2), 63);
        Expect.due("one LOST stays", x.ofShip(4, 3), 2);
        Expect.due("one whose DRAFT is too great waits", x.ofShip(1, 3), 3);
    }

    private static void promise14Else() {
        OldLight x = new OldLight();
        x.bay(4);
        x.lay(0, 0, 1);
        Expect.law(x, 1, "h%2=m&d=3");
        x.ship(21, 3, 1);
        x.ship(20, 3, 1);
        x.ship(20, 2, 1);
        x.hours(1);
        int[] first = {1, 2, 1};
        for (int ship = 0; ship < 3; ship++) {
            Expect.due("HOUR 0, AT of " + ship, x.ofShip(ship, 3), first[ship]);
        }
        x.hours(1);
        int[] second = {2, 1, 1};
        for (int ship = 0; ship < 3; ship++) {
            Expect.due("HOUR 1, AT of " + ship, x.ofShip(ship, 3), second[ship]);
        }
        Expect.law(x, 1, "1");
        x.lay(0, 0, 0);
        x.lay(1, 0, 0);
        x.lay(2, 0, 0);
        x.hours(1);
        x.hours(1);
        x.hours(1);
        Expect.due("no CELL farther out", x.ofShip(0, 3), 3);
        x.lay(2, 0, 5);
        x.hours(1);
        Expect.due("in by one CELL", x.ofShip(0, 3), 2);
        x.hours(1);
        Expect.due("and out again", x.ofShip(0, 3), 3);
    }

    private static void promise14Strikes() {
        OldLight x = new OldLight();
        Expect.law(x, 0, "b*(y<195)+2*(y>194)");
        x.set(1, 10);
        x.set(2, 255);
        x.ship(0, 3, 4);
        x.ship(0, 2, 4);
        x.ship(30, 3, 4);
        Expect.due("hours(1)", x.hours(1), 0);
        Expect.due("one whose DRAFT is more than TRUE strikes", x.ofShip(0, 4), 1);
        Expect.due("AT the CELL", x.ofShip(0, 3), 3);
        Expect.due("one whose DRAFT is just TRUE doesn't", x.ofShip(1, 4), 0);
        Expect.due("AT the CELL, too", x.ofShip(1, 3), 3);
        Expect.due("a STEAMER sees it", x.ofShip(2, 3), 4);
        x.change(0, 2, 0);
        x.change(0, 1, 1);
        Expect.due("striking AT 0 counts as AT 0", x.hours(1), 1);
        Expect.due("and is LOST", x.count(7), 1);
    }

    private static void promise14LastHour() {
        OldLight x = new OldLight();
        for (int i = 0; i < 166; i++) {
            x.hours(60);
        }
        Expect.due("HOUR", x.count(2), 9960);
        Expect.due("hours(40)", x.hours(40), Expect.STATE);
        Expect.due("hours(61): BEYOND first", x.hours(61), Expect.BEYOND);
        Expect.due("HOUR stays", x.count(2), 9960);
        Expect.due("hours(39)", x.hours(39), 0);
        Expect.due("HOUR", x.count(2), 9999);
        Expect.due("hours(1)", x.hours(1), Expect.STATE);
        Expect.due("loose(1)", x.loose(1), Expect.STATE);
        x.ship(0, 5, 3);
        Expect.due("only thought: beyond 9999, too", x.then(3, 0, 0), 0);
        Expect.law(x, 1, "h>9999");
        x.change(0, 0, 9);
        Expect.due("thought HOURS above 9999 are told to the TEXT", x.then(3, 0, 0), 5);
    }

    private static void promise15Loose() {
        OldLight x = new OldLight();
        x.ship(0, 5, 2);
        int[] beyond = {0, -1, 41, Integer.MAX_VALUE};
        for (int n : beyond) {
            Expect.due("loose(" + n + ")", x.loose(n), Expect.BEYOND);
        }
        Expect.due("z stays", x.count(11), 1);
        int z = 1103515245 + 12345;
        Expect.due("loose(1)", x.loose(1), 0);
        Expect.due("z", x.count(11), z);
        Expect.due("BACK", x.count(4), (z >>> 8) % 100);
        z = z * 1103515245 + 12345;
        Expect.due("loose(1)", x.loose(1), 1);
        Expect.due("z", x.count(11), z);
        Expect.due("BACK", x.count(4), (z >>> 8) % 100);
        Expect.due("HOUR", x.count(2), 2);
        Expect.due("loose(40)", x.loose(40), 1);
        Expect.due("HOUR", x.count(2), 42);
    }

    /** HOURS by draws are as BACK set to each draw, and one HOUR each. */
    private static void promise15DrawsOneByOne() {
        OldLight x = new OldLight();
        OldLight y = new OldLight();
        for (OldLight light : new OldLight[] {x, y}) {
            Expect.law(light, 0, "(y*7+c*3)%9");
            Expect.law(light, 1, "(h+m)%3=0");
            light.set(2, 0x7E);
            light.seed(-77);
            for (int kind = 0; kind < 7; kind++) {
                light.ship(10 * kind + kind, 2 + kind % 3, 3 + kind % 5);
            }
        }
        int z = -77;
        int due = 0;
        for (int i = 0; i < 25; i++) {
            z = z * 1103515245 + 12345;
            y.set(1, (z >>> 8) % 100);
            due = y.hours(1);
        }
        Expect.due("loose(25)", x.loose(25), due);
        for (int ship = 0; ship < 7; ship++) {
            for (int what = 0; what < 6; what++) {
                Expect.due("ofShip(" + ship + ", " + what + ")", x.ofShip(ship, what), y.ofShip(ship, what));
            }
        }
        Expect.due("BACK", x.count(4), y.count(4));
    }

    private static void promise15LastHour() {
        OldLight x = new OldLight();
        for (int i = 0; i < 166; i++) {
            x.hours(60);
        }
        Expect.due("loose(40)", x.loose(40), Expect.STATE);
        Expect.due("loose(41): BEYOND first", x.loose(41), Expect.BEYOND);
        Expect.due("z stays", x.count(11), 1);
        Expect.due("loose(39)", x.loose(39), 0);
        Expect.due("HOUR", x.count(2), 9999);
    }

    private static void promise16Depth() {
        OldLight x = new OldLight();
        x.bay(6);
        x.lay(3, 1, 0);
        x.lay(3, 2, 10);
        x.lay(4, 1, 500);
        x.lay(4, 2, 500);
        Expect.law(x, 0, "y/100+c+b-5");
        int[][] due = {{3, -99, 0}, {3, 0, 0}, {3, 10, 0}, {3, 11, 3}, {4, 499, 8}, {4, 500, 0}, {4, 501, 9},
            {5, 999, 14}, {5, -1, 5}, {0, -99, 0}, {0, 999, 9},
            {-1, 0, Expect.BEYOND}, {6, 0, Expect.BEYOND}, {0, -100, Expect.BEYOND}, {0, 1000, Expect.BEYOND}};
        for (int[] a : due) {
            Expect.due("depth(" + a[0] + ", " + a[1] + ")", x.depth(a[0], a[1]), a[2]);
        }
        Expect.law(x, 0, "5-y");
        Expect.due("a YEAR below 0 is 0", x.depth(0, -50), 5);
        Expect.law(x, 0, "y");
        Expect.due("19 at most", x.depth(0, 50), 19);
        x.lay(5, 0, 9);
        Expect.law(x, 0, "0-b");
        Expect.due("0 at least", x.depth(5, 50), 0);
        Expect.law(x, 0, "b");
        Expect.due("BED", x.depth(5, 50), 9);
    }
}
