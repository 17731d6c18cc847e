import java.util.Random;

/** Promises 14 to 27 and 39 by random bays, against the document's words told again in the plainest way. */
public final class OracleTest {
    /** DEPTH and ELSE, as TEXTS and as Java. */
    private interface Law {
        int value(int a, int b, int c);
    }

    private static final String[] DEPTH_TEXTS = {"b", "b+(y+c)%4", "(y*7+c*5)%11", "b-(y/3+c)%3", "b*(y<190)+3*(y>189)",
        "b+y%2-(c>3)*(y%3)"};
    private static final Law[] DEPTHS = {(c, y, b) -> b, (c, y, b) -> b + (y + c) % 4, (c, y, b) -> (y * 7 + c * 5) % 11,
        (c, y, b) -> b - (y / 3 + c) % 3, (c, y, b) -> y < 190 ? b : 3, (c, y, b) -> b + y % 2 - (c > 3 ? y % 3 : 0)};
    private static final String[] ELSE_TEXTS = {"0", "1", "(h+m)%3=0", "d>m|h%5=2"};
    private static final Law[] ELSES = {(d, m, h) -> 0, (d, m, h) -> 1, (d, m, h) -> (h + m) % 3 == 0 ? 1 : 0,
        (d, m, h) -> d > m || h % 5 == 2 ? 1 : 0};

    /** One bay with its SHIPS, told plainly. */
    private static final class Plain implements Cloneable {
        int cells;
        int year;
        int back;
        int beam;
        int hour;
        int[][] floor = new int[8][3];
        int[][] ships = new int[0][5];
        Law depth;
        Law other;

        Plain copy() {
            Plain copy = new Plain();
            copy.cells = cells;
            copy.year = year;
            copy.back = back;
            copy.beam = beam;
            copy.hour = hour;
            copy.floor = floor;
            copy.ships = new int[ships.length][];
            for (int i = 0; i < ships.length; i++) {
                copy.ships[i] = ships[i].clone();
            }
            copy.depth = depth;
            copy.other = other;
            return copy;
        }

        int depth(int cell, int when) {
            int then = when < 0 ? 0 : when;
            if (then >= floor[cell][1] && then <= floor[cell][2]) {
                return 0;
            }
            return Math.min(19, Math.max(0, depth.value(cell, then, floor[cell][0])));
        }

        int truth(int cell) {
            return depth(cell, year);
        }

        int shown(int cell, int ago) {
            return (beam & 1 << cell) == 0 ? truth(cell) : depth(cell, year - ago);
        }

        int believes(int kind, int m, int cell) {
            switch (kind) {
                case 1:
                    return believes(0, m, cell) + m % 3;
                case 2:
                    return truth(cell);
                case 3:
                    return Math.min(shown(cell, back), truth(cell));
                case 4:
                    return believes(1, m, cell) - 1;
                case 5:
                    return Math.max(believes(2, m, cell), shown(cell, back));
                case 6:
                    return Math.min(shown(cell, 2 * back), truth(cell));
                default:
                    return shown(cell, back);
            }
        }

        /** Of a SHIP: 0 KIND, 1 m, 2 DRAFT, 3 AT, 4 LOST. */
        void passHour() {
            for (int[] s : ships) {
                if (s[4] == 1 || s[3] == 0) {
                    continue;
                }
                if (believes(s[0], s[1], s[3] - 1) >= s[2]) {
                    s[3]--;
                    s[4] = truth(s[3]) < s[2] ? 1 : 0;
                } else if (other.value(s[2], s[1], hour) == 1) {
                    s[3] = Math.min(cells - 1, s[3] + 1);
                }
            }
            hour++;
        }

        Plain behind(int n) {
            Plain then = copy();
            for (int i = 0; i < n; i++) {
                then.passHour();
            }
            return then;
        }

        Plain with(int someBack) {
            Plain copy = copy();
            copy.back = someBack;
            return copy;
        }

        int set(int lost, int at) {
            int set = 0;
            for (int i = 0; i < ships.length; i++) {
                if ((lost < 0 || ships[i][4] == lost) && (at < 0 || ships[i][3] == at)) {
                    set |= 1 << i;
                }
            }
            return set;
        }

        int lost() {
            return Integer.bitCount(set(1, -1));
        }

        int in() {
            return Integer.bitCount(set(-1, 0));
        }
    }

    private final Random random;
    private final OldLight light = new OldLight();
    private final Plain plain = new Plain();
    private final String name;

    private OracleTest(int run) {
        random = new Random(run);
        name = "run " + run + ": ";
        build();
    }

    private void due(String call, long got, long want) {
        Expect.due(name + call, got, want);
    }

    private void build() {
        plain.cells = 3 + random.nextInt(6);
        light.bay(plain.cells);
        for (int cell = 0; cell < plain.cells; cell++) {
            plain.floor[cell][0] = random.nextInt(3) == 0 ? random.nextInt(10) : 4 + random.nextInt(4);
            plain.floor[cell][1] = random.nextInt(4) == 0 ? 100 + random.nextInt(120) : 1;
            plain.floor[cell][2] = random.nextInt(4) == 0 ? 150 + random.nextInt(60) : 0;
            for (int what = 0; what < 3; what++) {
                light.lay(cell, what, plain.floor[cell][what]);
            }
        }
        plain.year = random.nextInt(4) == 0 ? random.nextInt(100) : 150 + random.nextInt(100);
        plain.back = random.nextInt(100);
        plain.beam = random.nextInt(1 << plain.cells);
        light.set(0, plain.year);
        light.set(1, plain.back);
        light.set(2, plain.beam);
        int law = random.nextInt(DEPTHS.length);
        plain.depth = DEPTHS[law];
        due("text(0)", Expect.text(light, 0, DEPTH_TEXTS[law]), 1);
        int other = random.nextInt(ELSES.length);
        plain.other = ELSES[other];
        due("text(1)", Expect.text(light, 1, ELSE_TEXTS[other]), 1);
        plain.ships = new int[random.nextInt(8)][5];
        for (int i = 0; i < plain.ships.length; i++) {
            int[] s = {random.nextInt(7), random.nextInt(10), 1 + random.nextInt(8), random.nextInt(plain.cells), 0};
            plain.ships[i] = s;
            light.ship(10 * s[0] + s[1], s[2], s[3]);
            if (random.nextInt(9) == 0) {
                s[4] = 1;
                light.change(i, 2, 1);
            }
        }
    }

    private void ask() {
        askShips();
        askLost();
        askSettings();
        askShown();
        askStruckAndDark();
        askDeepAndTraffic();
        askCheck();
    }

    private void askShips() {
        int n = random.nextInt(61);
        Plain then = plain.behind(n);
        for (int i = 0; i < plain.ships.length; i++) {
            int[] s = plain.ships[i];
            due("ofShip 5", light.ofShip(i, 5), s[3] == 0 ? -1 : plain.believes(s[0], s[1], s[3] - 1));
            due("then AT", light.then(n, i, 0), then.ships[i][3]);
            due("then LOST", light.then(n, i, 1), then.ships[i][4]);
            due("draws", light.draws(i), draws(i));
            int odds = 0;
            for (int back = 0; back < 20; back++) {
                odds += plain.with(back).behind(n).ships[i][3] == 0 ? 1 : 0;
            }
            int divisor = java.math.BigInteger.valueOf(odds).gcd(java.math.BigInteger.valueOf(20)).intValue();
            due("odds above", light.odds(i, n, 0), odds / divisor);
            due("odds below", light.odds(i, n, 1), 20 / divisor);
        }
    }

    private int draws(int ship) {
        if (plain.ships[ship][4] == 1) {
            return Expect.STATE;
        }
        int best = Expect.NONE;
        for (int draft = 0; draft < 10; draft++) {
            Plain other = plain.copy();
            other.ships[ship][2] = draft;
            if (other.behind(60).ships[ship][3] == 0) {
                best = draft;
            }
        }
        return best;
    }

    private void askLost() {
        int hours = Expect.NONE;
        int ship = Expect.NONE;
        for (int n = 60; n >= 0; n--) {
            Plain then = plain.behind(n);
            if (then.lost() > plain.lost()) {
                hours = n;
                ship = Integer.numberOfTrailingZeros(then.set(1, -1) & ~plain.set(1, -1));
            }
        }
        due("lost(0)", light.lost(0), hours);
        due("lost(1)", light.lost(1), ship);
    }

    private void askSettings() {
        for (int i = 0; i < 3; i++) {
            int set = random.nextInt(1 << plain.ships.length) & random.nextInt(1 << plain.ships.length);
            int n = random.nextInt(21);
            int least = Expect.NONE;
            for (int back = 99; back >= 0; back--) {
                if ((set & ~plain.with(back).behind(n).set(-1, 0)) == 0) {
                    least = back;
                }
            }
            due("setting(" + set + ", " + n + ")", light.setting(set, n), least);
        }
    }

    private void askShown() {
        int fewest = 99;
        int best = 0;
        for (int back = 99; back >= 1; back--) {
            int untrue = 0;
            for (int cell = 0; cell < plain.cells; cell++) {
                untrue += plain.depth(cell, plain.year - back) == plain.truth(cell) ? 0 : 1;
            }
            if (untrue <= fewest) {
                fewest = untrue;
                best = back;
            }
        }
        due("leastFalse(0)", light.leastFalse(0), best);
        due("leastFalse(1)", light.leastFalse(1), fewest);
        int[] told = new int[plain.cells];
        light.sheet(0, 8, plain.cells);
        int like = random.nextInt(100);
        for (int cell = 0; cell < plain.cells; cell++) {
            told[cell] = random.nextInt(3) == 0 ? -1 - cell : plain.shown(cell, like) + (random.nextInt(20) == 0 ? 1 : 0);
            light.put(0, cell, told[cell]);
            due("ofCell 3", light.ofCell(cell, 3), plain.truth(cell));
            due("ofCell 4", light.ofCell(cell, 4), plain.shown(cell, plain.back));
        }
        int many = 0;
        int least = Expect.NONE;
        for (int back = 99; back >= 0; back--) {
            boolean so = true;
            for (int cell = 0; cell < plain.cells; cell++) {
                so &= told[cell] < 0 || told[cell] == plain.shown(cell, back);
            }
            many += so ? 1 : 0;
            least = so ? back : least;
        }
        due("which(0, 0)", light.which(0, 0), many);
        due("which(0, 1)", light.which(0, 1), least);
    }

    private void askStruckAndDark() {
        for (int cell = 0; cell < plain.cells; cell++) {
            due("struck(" + cell + ")", light.struck(cell), plain.behind(60).set(1, cell));
            due("ofCell 5", light.ofCell(cell, 5), plain.set(-1, cell));
        }
        int n = random.nextInt(21);
        int best = Expect.NONE;
        int fewest = 99;
        for (int out = (1 << plain.cells) - 1; out >= 0; out--) {
            Plain other = plain.copy();
            other.beam &= ~out;
            if (other.behind(n).lost() <= plain.lost() && Integer.bitCount(out) <= fewest) {
                best = out;
                fewest = Integer.bitCount(out);
            }
        }
        due("dark(" + n + ")", light.dark(n), best);
    }

    private void askDeepAndTraffic() {
        for (int i = 0; i < 5; i++) {
            int cell = random.nextInt(plain.cells);
            int v = random.nextInt(14);
            int ago = 0;
            while (ago < 100 && plain.depth(cell, plain.year - ago) < v) {
                ago++;
            }
            due("deep(" + cell + ", " + v + ")", light.deep(cell, v), ago < 100 ? ago : Expect.NONE);
            int year = random.nextInt(1099) - 99;
            due("depth(" + cell + ", " + year + ")", light.depth(cell, year), plain.depth(cell, year));
        }
        int n = random.nextInt(61);
        Plain then = plain.behind(n);
        int busiest = 0;
        for (int cell = 0; cell < plain.cells; cell++) {
            if (Integer.bitCount(then.set(0, cell)) > Integer.bitCount(then.set(0, busiest))) {
                busiest = cell;
            }
        }
        due("traffic(" + n + ", 0)", light.traffic(n, 0), busiest);
        due("traffic(" + n + ", 1)", light.traffic(n, 1), Integer.bitCount(then.set(0, busiest)));
    }

    private void askCheck() {
        int many = random.nextInt(21);
        int due = 0;
        for (int i = many; i >= 1; i--) {
            int in = plain.behind(i).in();
            boolean wrong = random.nextInt(40) == 0;
            due = wrong ? i : due;
            toTell[i - 1] = wrong ? in + 1 : in;
        }
        for (int i = 0; i < many; i++) {
            light.tell(toTell[i]);
        }
        due("check()", light.check(), due);
    }

    private final int[] toTell = new int[20];

    /** HOURS that pass, and the same asked of what is left. */
    private void go() {
        int n = 1 + random.nextInt(9);
        int in = -1;
        if (random.nextBoolean()) {
            in = light.hours(n);
            for (int i = 0; i < n; i++) {
                plain.passHour();
            }
        } else {
            int z = light.count(11);
            in = light.loose(n);
            for (int i = 0; i < n; i++) {
                z = z * 1103515245 + 12345;
                plain.back = (z >>> 8) % 100;
                plain.passHour();
            }
        }
        due("SHIPS AT 0", in, plain.in());
        due("count(2)", light.count(2), plain.hour);
        due("count(7)", light.count(7), plain.lost());
        for (int i = 0; i < plain.ships.length; i++) {
            due("AT", light.ofShip(i, 3), plain.ships[i][3]);
            due("LOST", light.ofShip(i, 4), plain.ships[i][4]);
        }
    }

    public static void main(String[] args) {
        for (int run = 0; run < 400; run++) {
            OracleTest test = new OracleTest(run);
            test.ask();
            test.go();
            test.ask();
        }
        Expect.end();
    }
}
