import java.util.Random;

/**
 * Where promises meet, asked of OldLight alone: what it tells of what would be is what comes to pass when
 * the HOURS do (14), with BACK and BEAM (5) or DRAFT (8) as told; an IMAGE (36, 37) brings back what was ahead.
 */
public final class MeetTest {
    private static final String[] DEPTH_TEXTS = {"b", "b+(y+c)%4", "b-(y/3+c)%3", "2+4*(y<191)", "5+(y<191)", "y%7+c", "b+y%2"};
    private static final String[] ELSE_TEXTS = {"0", "1", "(h+m)%3=0", "d>m|h%5=2", "h%2"};

    private final Random random;
    private final OldLight x = new OldLight();
    private final String name;
    private final int cells;
    private final int ships;
    private final int lostNow;

    private MeetTest(int run, String what) {
        random = new Random(run);
        name = "run " + run + ", " + what + ": ";
        cells = 3 + random.nextInt(6);
        ships = 1 + random.nextInt(7);
        x.bay(cells);
        for (int cell = 0; cell < cells; cell++) {
            x.lay(cell, 0, 2 + random.nextInt(8));
        }
        int cell = random.nextInt(cells);
        x.lay(cell, 1, 150 + random.nextInt(60));
        x.lay(cell, 2, 180 + random.nextInt(60));
        x.set(0, 190 + random.nextInt(20));
        x.set(1, random.nextInt(30));
        x.set(2, random.nextInt(1 << cells));
        Expect.law(x, 0, DEPTH_TEXTS[random.nextInt(DEPTH_TEXTS.length)]);
        Expect.law(x, 1, ELSE_TEXTS[random.nextInt(ELSE_TEXTS.length)]);
        for (int ship = 0; ship < ships; ship++) {
            x.ship(random.nextInt(70), 2 + random.nextInt(6), random.nextInt(cells));
        }
        x.hours(1 + random.nextInt(4));
        lostNow = x.count(7);
        x.image();
    }

    private void due(String what, long got, long want) {
        Expect.due(name + what, got, want);
    }

    private void holds(String what, boolean isSo) {
        Expect.holds(name + what, isSo);
    }

    public static void main(String[] args) {
        for (int run = 0; run < 300; run++) {
            new MeetTest(run, "then, struck, traffic").behind();
            new MeetTest(run, "lost").lost();
            new MeetTest(run, "setting").setting();
            new MeetTest(run, "leastFalse").leastFalse();
            new MeetTest(run, "which").which();
            new MeetTest(run, "dark").dark();
            new MeetTest(run, "deep").deep();
            new MeetTest(run, "draws").draws();
            new MeetTest(run, "odds").odds();
            new MeetTest(run, "check").check();
            new MeetTest(run, "loose").loose();
            new MeetTest(run, "draw").draw();
            new MeetTest(run, "image").image();
        }
        Expect.end();
    }

    /** The SHIPS that are LOST, as a set. */
    private int lostOnes() {
        int set = 0;
        for (int ship = 0; ship < ships; ship++) {
            set |= x.ofShip(ship, 4) << ship;
        }
        return set;
    }

    private void behind() {
        for (int n : new int[] {1, 1 + random.nextInt(60), 60}) {
            int[] at = new int[ships];
            int[] lost = new int[ships];
            for (int ship = 0; ship < ships; ship++) {
                at[ship] = x.then(n, ship, 0);
                lost[ship] = x.then(n, ship, 1);
            }
            int busiest = x.traffic(n, 0);
            int most = x.traffic(n, 1);
            int struck = x.struck(busiest);
            x.hours(n);
            for (int ship = 0; ship < ships; ship++) {
                due("AT", x.ofShip(ship, 3), at[ship]);
                due("LOST", x.ofShip(ship, 4), lost[ship]);
            }
            int afloat = ~lostOnes();
            for (int cell = 0; cell < cells; cell++) {
                int many = Integer.bitCount(x.ofCell(cell, 5) & afloat);
                holds("fewer at CELLS ahead", cell >= busiest || many < most);
                holds("no more AT another CELL", many <= most);
                due("how many AT this one", cell == busiest ? many : most, most);
            }
            if (n == 60) {
                due("struck", x.ofCell(busiest, 5) & lostOnes(), struck);
            }
            due("HOUR, restored", x.restore(), x.count(2));
        }
    }

    private void lost() {
        int n = x.lost(0);
        int ship = x.lost(1);
        int before = lostOnes();
        if (n == Expect.NONE) {
            due("which SHIP", ship, Expect.NONE);
            x.hours(60);
            due("LOST by 60", x.count(7), lostNow);
            return;
        }
        if (n > 1) {
            x.hours(n - 1);
            due("LOST an HOUR sooner", x.count(7), lostNow);
            due("LOST FIRST from there", x.lost(0), 1);
        }
        x.hours(1);
        holds("more are LOST", x.count(7) > lostNow);
        due("the least such", Integer.numberOfTrailingZeros(lostOnes() & ~before), ship);
    }

    private void setting() {
        int set = random.nextInt(1 << ships) & random.nextInt(1 << ships);
        int n = 1 + random.nextInt(20);
        int least = x.setting(set, n);
        int tries = least == Expect.NONE ? 100 : least + 1;
        for (int back = Math.max(0, tries - 80); back < tries; back++) {
            x.set(1, back);
            x.hours(n);
            due("all AT 0 by BACK " + back, (set & ~x.ofCell(0, 5)) == 0 ? 1 : 0, back == least ? 1 : 0);
            x.restore();
        }
    }

    private int untrue() {
        int many = 0;
        for (int cell = 0; cell < cells; cell++) {
            many += x.ofCell(cell, 3) != x.ofCell(cell, 4) ? 1 : 0;
        }
        return many;
    }

    private void leastFalse() {
        int best = x.leastFalse(0);
        int fewest = x.leastFalse(1);
        x.set(2, (1 << cells) - 1);
        x.set(1, best);
        due("so many are false", untrue(), fewest);
        for (int i = 0; i < 20; i++) {
            int back = 1 + random.nextInt(99);
            x.set(1, back);
            int many = untrue();
            holds("no fewer by BACK " + back, back < best ? many > fewest : many >= fewest);
        }
    }

    private void which() {
        int like = random.nextInt(100);
        x.set(1, like);
        x.sheet(3, 16, cells);
        for (int cell = 0; cell < cells; cell++) {
            x.put(3, cell, x.ofCell(cell, 4));
        }
        int many = x.which(3, 0);
        int least = x.which(3, 1);
        holds("one at least", many >= 1 && least >= 0 && least <= like);
        x.set(1, least);
        x.sheet(2, 16, cells);
        x.move(3, 0, 2, 0, cells);
        for (int cell = 0; cell < cells; cell++) {
            due("SHOWN by the least", x.put(2, cell, x.ofCell(cell, 4)), 1);
        }
        due("told alike: how many", x.which(2, 0), many);
        due("told alike: the least", x.which(2, 1), least);
        x.set(2, 0);
        int truth = x.which(3, 0);
        holds("without BEAM by all BACKS or by none", truth == 0 || truth == 100);
        for (int cell = 0; cell < cells; cell++) {
            x.put(3, cell, -1);
        }
        due("nothing told: how many", x.which(3, 0), 100);
        due("nothing told: the least", x.which(3, 1), 0);
    }

    private void dark() {
        int n = 1 + random.nextInt(20);
        int beam = x.count(5);
        int out = x.dark(n);
        if (out == Expect.NONE) {
            x.set(2, 0);
            x.hours(n);
            holds("LOST without any BEAM, too", x.count(7) > lostNow);
            return;
        }
        due("out of BEAM", out & ~beam, 0);
        x.set(2, beam & ~out);
        due("then none has to be out", x.dark(n), 0);
        x.hours(n);
        due("no more LOST", x.count(7), lostNow);
        x.restore();
        for (int cell = 0; cell < cells && out != 0; cell++) {
            x.set(2, beam & ~(out & ~(1 << cell)));
            x.hours(n);
            due("one fewer out: more LOST", x.count(7) > lostNow ? 1 : 0, out >> cell & 1);
            x.restore();
        }
    }

    private void deep() {
        int cell = random.nextInt(cells);
        int year = x.count(3);
        for (int v = 0; v < 20; v += 3) {
            int ago = x.deep(cell, v);
            int last = ago == Expect.NONE ? 99 : ago;
            for (int i = Math.max(0, last - 50); i <= last; i++) {
                due("v deep " + i + " ago", x.depth(cell, year - i) >= v ? 1 : 0, i == ago ? 1 : 0);
            }
        }
        x.set(2, 1 << cell);
        x.set(1, 30);
        due("SHOWN", x.ofCell(cell, 4), x.depth(cell, year - 30));
    }

    private void draws() {
        int ship = random.nextInt(ships);
        int greatest = x.draws(ship);
        if (x.ofShip(ship, 4) == 1) {
            due("of one that is LOST", greatest, Expect.STATE);
            return;
        }
        for (int draft = Math.max(0, greatest); draft <= 9; draft++) {
            x.change(ship, 0, draft);
            due("with DRAFT " + draft, x.then(60, ship, 0) == 0 ? 1 : 0, draft == greatest ? 1 : 0);
            x.hours(60);
            due("AT 0", x.ofShip(ship, 3) == 0 ? 1 : 0, draft == greatest ? 1 : 0);
            x.restore();
        }
    }

    private void odds() {
        int ship = random.nextInt(ships);
        int n = 1 + random.nextInt(60);
        int above = x.odds(ship, n, 0);
        int below = x.odds(ship, n, 1);
        int in = 0;
        for (int back = 0; back < 20; back++) {
            x.set(1, back);
            x.hours(n);
            in += x.ofShip(ship, 3) == 0 ? 1 : 0;
            x.restore();
        }
        due("of 20", above * 20, in * below);
        due("lowest terms", java.math.BigInteger.valueOf(above).gcd(java.math.BigInteger.valueOf(below)).intValue(), 1);
    }

    private void check() {
        int n = 1 + random.nextInt(20);
        int wrong = random.nextInt(2 * n);
        int[] in = new int[n];
        for (int i = 0; i < n; i++) {
            in[i] = x.hours(1);
        }
        x.restore();
        for (int i = 0; i < n; i++) {
            due("tell", x.tell(in[i] + (i == wrong ? 1 : 0)), i + 1);
        }
        due("check", x.check(), wrong < n ? 1 + wrong : 0);
        due("none wait", x.count(9), 0);
    }

    /** The same draws again, one by one or together, once z is as it was; BACK stays as it was drawn last. */
    private void loose() {
        int n = 1 + random.nextInt(40);
        x.seed(random.nextInt());
        x.image();
        x.loose(n);
        String together = Shown.kept(x);
        due("BACK", x.count(4), (x.count(11) >>> 8) % 100);
        x.restore();
        for (int i = 0; i < n; i++) {
            x.loose(1);
        }
        holds("one by one", Shown.kept(x).equals(together));
    }

    /** Draws go on as they would have, whatever is asked or refused between them. */
    private void draw() {
        int n = 1 + random.nextInt(20);
        int z = random.nextInt();
        x.seed(z);
        for (int i = 0; i < n; i++) {
            z = z * 1103515245 + 12345;
            x.set(1, random.nextInt(100));
            x.hours(1);
            due("HOURS draw nothing", x.loose(41), Expect.BEYOND);
            x.odds(0, 60, 0);
            x.setting(1, 20);
            x.loose(1);
            due("z", x.count(11), z);
            due("BACK", x.count(4), (z >>> 8) % 100);
        }
    }

    /** Between two answers alike an act is refused; what is only thought changes nothing. */
    private void image() {
        String was = Shown.kept(x);
        int[] errors = {x.ship(70, 0, 0), x.lay(cells, 0, 0), x.set(2, 1 << cells), x.change(ships, 0, 0), x.become(0, -1),
            x.bay(5), x.hours(0), x.loose(41), x.sheet(0, 8, -1), x.beds(0), x.text(2), x.voice(0, 4, 0)};
        int[] due = {Expect.BEYOND, Expect.BEYOND, Expect.BEYOND, Expect.BEYOND, Expect.BEYOND,
            Expect.STATE, Expect.BEYOND, Expect.BEYOND, Expect.STATE, Expect.NONE, Expect.BEYOND, Expect.BEYOND};
        for (int i = 0; i < due.length; i++) {
            due("refused " + i, errors[i], due[i]);
        }
        holds("as it was, though 12 were refused", Shown.kept(x).equals(was));
        int[] thought = {x.then(60, 0, 0), x.lost(0), x.setting(1, 20), x.leastFalse(0), x.struck(0), x.dark(20),
            x.draws(0), x.traffic(60, 0), x.odds(0, 60, 0), x.deep(0, 9), x.which(0, 0)};
        due("acts that only think", thought.length, 11);
        holds("as it was, behind what is only thought", Shown.kept(x).equals(was));
        x.hours(60);
        x.lay(0, 0, 9);
        x.become(0, 69);
        due("restored", x.restore(), x.count(2));
        holds("as the IMAGE has it", Shown.kept(x).equals(was));
    }
}
