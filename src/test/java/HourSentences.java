/** Sentences on HOURS: of the Terms, and of promises 14 to 16 and 28. */
final class HourSentences extends Sentence {
    private static final int FACTOR = 1103515245;
    private static final int SUMMAND = 12345;

    static void all() {
        hour();
        draw();
        drawsOfHours();
        hours();
        hoursBeyond();
        hoursState();
        loose();
        looseBeyond();
        looseState();
        depth();
        depthBeyond();
        seed();
    }

    // ---- the Terms

    private static void hour() {
        term("HOUR (0 to 9999; 0 at first).");
        OldLight x = new OldLight();
        due("at first", x.count(2), 0);
        Expect.law(x, 1, "h=0|h=9999");
        x.ship(0, 9, 2);
        x.hours(1);
        due("HOUR 0 is told to the TEXT", x.ofShip(0, 3), 3);
        OldLight y = Made.atHour(9999);
        due("the last", y.count(2), 9999);
        due("and none more", y.hours(1), STATE);
        due("it stays", y.count(2), 9999);
        OldLight z = Made.atHour(9998);
        Expect.law(z, 1, "h=9998");
        due("the last but one is told to the TEXT", z.hours(1), z.count(6));
        due("of one that waits", z.ofShip(0, 3), 3);
        due("the last", z.count(2), 9999);
    }

    private static void draw() {
        term("HOURS by draws: z is told (1 at first); each makes it z * 1103515245 + 12345 (an int), and gives z >>> 8.");
        OldLight x = new OldLight();
        due("at first", x.count(11), 1);
        int[] seeds = {1, 0, -1, LEAST, GREATEST, 2, 256, -256, 65536, 99, 1 << 30, 0x7FFFFF00};
        for (int seed : seeds) {
            x.seed(seed);
            x.loose(1);
            int z = seed * FACTOR + SUMMAND;
            due("z behind " + seed, x.count(11), z);
            due("BACK behind " + seed, x.count(4), (z >>> 8) % 100);
        }
        x.seed(1);
        int z = 1;
        for (int i = 0; i < 100; i++) {
            x.loose(1);
            z = z * FACTOR + SUMMAND;
            due("z, draw " + i, x.count(11), z);
            due("BACK, draw " + i, x.count(4), (z >>> 8) % 100);
        }
        holds("z was below 0, too", x.seed(0) != 0);
    }

    /** The BACK that a draw gives is what SHIPS believe by in that HOUR, not in the next. */
    private static void drawsOfHours() {
        term("Each: a draw: BACK is its rest by 100; then an HOUR.");
        int sails = 0;
        for (int seed = 0; seed < 200; seed++) {
            OldLight x = new OldLight();
            Expect.text(x, 0, "2+4*(y<151)");
            x.set(1, seed % 2 * 99);
            x.set(2, 255);
            x.ship(0, 6, 5);
            x.seed(seed);
            int z = seed * FACTOR + SUMMAND;
            boolean goes = (z >>> 8) % 100 >= 50;
            x.loose(1);
            due("AT, seed " + seed, x.ofShip(0, 3), goes ? 4 : 5);
            due("BACK, seed " + seed, x.count(4), (z >>> 8) % 100);
            sails += goes ? 1 : 0;
        }
        holds("some go, some wait", sails > 50 && sails < 150);
        OldLight y = new OldLight();
        int most = 0;
        int least = 99;
        for (int i = 0; i < 160; i++) {
            y.loose(1);
            most = Math.max(most, y.count(4));
            least = Math.min(least, y.count(4));
        }
        holds("BACKS from 0 to 99", least >= 0 && least < 5 && most > 94 && most <= 99);
    }

    // ---- Promise 14

    private static void hours() {
        of(14, "n (1 to 60) HOURS: how many SHIPS are AT 0.");
        OldLight x = new OldLight();
        due("no SHIPS, 1", x.hours(1), 0);
        due("no SHIPS, 60", x.hours(60), 0);
        due("HOUR", x.count(2), 61);
        for (int i = 0; i < 7; i++) {
            x.ship(20, 5, i + 1);
        }
        due("1", x.hours(1), 1);
        due("2", x.hours(2), 3);
        due("4", x.hours(4), 7);
        due("HOUR", x.count(2), 68);
        OldLight y = new OldLight();
        y.ship(20, 5, 7);
        due("in one call", y.hours(7), 1);
        due("HOUR", y.count(2), 7);
        OldLight z = new OldLight();
        z.ship(20, 5, 0);
        z.ship(20, 9, 3);
        z.ship(20, 5, 0);
        z.change(2, 2, 1);
        due("AT 0 from the beginning, one of these LOST", z.hours(60), 2);
        OldLight w = new OldLight();
        Expect.law(w, 1, "h=59");
        w.ship(20, 9, 2);
        due("59", w.hours(59), 0);
        due("it waits", w.ofShip(0, 3), 2);
        w.hours(1);
        due("in the 60th HOUR it goes out", w.ofShip(0, 3), 3);
        OldLight v = new OldLight();
        Expect.law(v, 1, "h=59");
        v.ship(20, 9, 2);
        v.hours(60);
        due("60 in one call", v.ofShip(0, 3), 3);
    }

    private static void hoursBeyond() {
        of(14, "BEYOND.");
        bounds(Made::laden, "hours(%d)", 1, 60, OldLight::hours);
        bounds(Made::fresh, "hours(%d)", 1, 60, OldLight::hours);
        refused(Made::sevenShips, "hours(0)", x -> x.hours(0), BEYOND);
    }

    private static void hoursState() {
        of(14, "STATE: HOUR would be above 9999.");
        int[][] just = {{9939, 60}, {9940, 59}, {9998, 1}, {9959, 40}};
        for (int[] a : just) {
            OldLight x = Made.atHour(a[0]);
            due("hours(" + a[1] + ") from " + a[0], x.hours(a[1]), x.count(6));
            due("HOUR", x.count(2), 9999);
            refused(() -> Made.atHour(a[0]), "hours(" + (a[1] + 1) + ") from " + a[0], y -> y.hours(a[1] + 1),
                a[1] == 60 ? BEYOND : STATE);
        }
        int[][] more = {{9999, 1}, {9999, 60}, {9940, 60}, {9998, 2}, {9990, 10}};
        for (int[] a : more) {
            refused(() -> Made.atHour(a[0]), "hours(" + a[1] + ") from " + a[0], x -> x.hours(a[1]), STATE);
        }
        for (int n : outside(1, 60)) {
            refused(() -> Made.atHour(9999), "hours(" + n + "), BEYOND first", x -> x.hours(n), BEYOND);
        }
    }

    // ---- Promise 15

    private static void loose() {
        of(15, "n (1 to 40) HOURS by draws: likewise.");
        OldLight x = new OldLight();
        for (int i = 0; i < 7; i++) {
            x.ship(20, 5, i + 1);
        }
        due("1", x.loose(1), 1);
        due("3", x.loose(3), 4);
        due("40", x.loose(40), 7);
        due("HOUR", x.count(2), 44);
        int z = 1;
        for (int i = 0; i < 44; i++) {
            z = z * FACTOR + SUMMAND;
        }
        due("z", x.count(11), z);
        due("BACK", x.count(4), (z >>> 8) % 100);
        due("no SHIPS", new OldLight().loose(40), 0);
        looseAsOneByOne();
        OldLight w = new OldLight();
        Expect.law(w, 1, "h=39");
        w.ship(20, 9, 2);
        w.loose(40);
        due("in the 40th HOUR it goes out", w.ofShip(0, 3), 3);
    }

    /** HOURS by draws in one call are as one by one, and as BACK set to each draw ahead of one HOUR. */
    private static void looseAsOneByOne() {
        for (int seed = 0; seed < 40; seed++) {
            OldLight whole = manyDrafts(seed);
            OldLight single = manyDrafts(seed);
            OldLight told = manyDrafts(seed);
            int in = 0;
            int z = seed;
            for (int i = 0; i < 12; i++) {
                in = single.loose(1);
                z = z * FACTOR + SUMMAND;
                told.set(1, (z >>> 8) % 100);
                told.hours(1);
            }
            told.seed(z);
            due("in one call", whole.loose(12), in);
            String want = Shown.all(told);
            same("the state of one by one", Shown.all(single), want);
            same("the state of one call", Shown.all(whole), want);
        }
    }

    private static OldLight manyDrafts(int seed) {
        OldLight x = new OldLight();
        Expect.text(x, 0, "(y*7+c*3)%9+1");
        Expect.text(x, 1, "(h+m)%3=0");
        x.set(2, 0x7E);
        x.seed(seed);
        for (int kind = 0; kind < 7; kind++) {
            x.ship(10 * kind + kind, 3 + kind % 4, 3 + kind % 5);
        }
        return x;
    }

    private static void looseBeyond() {
        of(15, "BEYOND.");
        bounds(Made::laden, "loose(%d)", 1, 40, OldLight::loose);
        bounds(Made::fresh, "loose(%d)", 1, 40, OldLight::loose);
        refused(Made::sevenShips, "loose(0)", x -> x.loose(0), BEYOND);
        refused(Made::sevenShips, "loose(60)", x -> x.loose(60), BEYOND);
    }

    private static void looseState() {
        of(15, "STATE: HOUR would be above 9999.");
        int[][] just = {{9959, 40}, {9960, 39}, {9998, 1}};
        for (int[] a : just) {
            OldLight x = Made.atHour(a[0]);
            due("loose(" + a[1] + ") from " + a[0], x.loose(a[1]), x.count(6));
            due("HOUR", x.count(2), 9999);
            refused(() -> Made.atHour(a[0]), "loose(" + (a[1] + 1) + ") from " + a[0], y -> y.loose(a[1] + 1),
                a[1] == 40 ? BEYOND : STATE);
        }
        int[][] more = {{9999, 1}, {9999, 40}, {9960, 40}, {9998, 2}};
        for (int[] a : more) {
            refused(() -> Made.atHour(a[0]), "loose(" + a[1] + ") from " + a[0], x -> x.loose(a[1]), STATE);
        }
        for (int n : outside(1, 40)) {
            refused(() -> Made.atHour(9999), "loose(" + n + "), BEYOND first", x -> x.loose(n), BEYOND);
        }
    }

    // ---- Promise 16

    private static void depth() {
        of(16, "DEPTH of a CELL in a YEAR (-99 to 999).");
        OldLight x = new OldLight();
        Expect.law(x, 0, "1+(y=1)+(y=998)*3+(y=999)*4+(c=7)*9");
        int[][] rows = {{0, -99, 1}, {0, -98, 1}, {0, -1, 1}, {0, 0, 1}, {0, 1, 2}, {0, 2, 1}, {0, 997, 1}, {0, 998, 4},
            {0, 999, 5}, {7, -99, 10}, {7, 1, 11}, {7, 999, 14}};
        for (int[] a : rows) {
            due("depth(" + a[0] + ", " + a[1] + ")", x.depth(a[0], a[1]), a[2]);
        }
        x.set(0, 0);
        x.set(1, 99);
        x.set(2, 255);
        due("the lens doesn't matter", x.depth(0, 999), 5);
        x.lay(0, 1, 0);
        x.lay(0, 2, 999);
        for (int year : new int[] {-99, -1, 0, 1, 999}) {
            due("a ROCK from 0 till 999, YEAR " + year, x.depth(0, year), 0);
        }
        due("of another CELL", x.depth(1, 999), 5);
    }

    private static void depthBeyond() {
        of(16, "BEYOND.");
        bounds(Made::laden, "depth(%d, -99)", 0, 5, (x, v) -> x.depth(v, -99));
        bounds(Made::fresh, "depth(%d, 999)", 0, 7, (x, v) -> x.depth(v, 999));
        bounds(Made::laden, "depth(5, %d)", -99, 999, (x, v) -> x.depth(5, v));
        bounds(Made::fresh, "depth(0, %d)", -99, 999, (x, v) -> x.depth(0, v));
    }

    // ---- Promise 28

    private static void seed() {
        of(28, "z becomes v: what it was (any number).");
        OldLight x = new OldLight();
        int was = 1;
        int[] seeds = {0, -1, GREATEST, LEAST, LOW, BEYOND, NONE, STATE, FULL, KIND, 7};
        for (int seed : seeds) {
            due("seed(" + seed + ")", x.seed(seed), was);
            due("z", x.count(11), seed);
            was = seed;
        }
        row("none was an ERROR: told", k -> x.told(k + 1), 0, 0, 0, 0, 0);
    }
}
