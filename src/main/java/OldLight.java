/**
 * A lighthouse that shines backward: its beam shows the bay as it was, and ships come to grief by it.
 * Words in capitals are the terms of the document.
 */
public final class OldLight {
    private static final int LOW = -1000000000;
    private static final int BEYOND = 1;
    private static final int NONE = 2;
    private static final int STATE = 3;
    private static final int FULL = 4;
    private static final int KIND = 5;

    private static final int MOST_CELLS = 8;
    private static final int MOST_SHIPS = 7;
    private static final int MOST_BYTES = 50;
    private static final int MOST_WAITING = 20;
    private static final int MOST_SHEETS = 4;
    private static final int MOST_NUMBERS = 40;
    private static final int MOST_BODIES = 40;
    private static final int MOST_OPEN = 5;
    private static final int LAST_YEAR = 999;
    private static final int LAST_HOUR = 9999;
    private static final int LAST_BACK = 99;
    private static final int FAR = 60;
    private static final int NEAR = 20;
    private static final int GREATEST_DRAFT = 9;
    private static final int GREATEST_DEPTH = 19;
    private static final int LIKELY_BACKS = 20;

    private static final int DEPTH_USE = 0;
    private static final int ELSE_USE = 1;

    private static final int SHIP = 0;
    private static final int COLLIER = 1;
    private static final int ROWER = 2;
    private static final int STEAMER = 3;
    private static final int CUTTER = 4;
    private static final int SMUGGLER = 5;
    private static final int GHOST = 6;
    // The next KIND above each; SHIP, the topmost, stands for itself, so that a walk upward ends there.
    private static final int[] ABOVE = {SHIP, SHIP, SHIP, SHIP, COLLIER, ROWER, STEAMER};

    private final Bay bay = new Bay();
    private final Fleet fleet = new Fleet();
    private final Desk desk = new Desk();
    private final Bay keptBay = new Bay();
    private final Fleet keptFleet = new Fleet();
    private final Desk keptDesk = new Desk();
    private int images = 0;

    private final Fleet thought = new Fleet();
    private final Chart chart = new Chart();
    private final Reader reader = new Reader();
    private final Speaker speaker = new Speaker();
    private final Sheet[] sheets = {new Sheet(), new Sheet(), new Sheet(), new Sheet()};
    private final int[] errors = new int[KIND + 1];

    public OldLight() {
        bay.renew(MOST_CELLS);
    }

    // ---- the bay, the lens, ships

    public int bay(int n) {
        if (!within(n, 3, MOST_CELLS)) {
            return refuse(BEYOND);
        }
        if (fleet.ships > 0) {
            return refuse(STATE);
        }
        int was = bay.cells;
        bay.renew(n);
        return was;
    }

    public int lay(int cell, int what, int v) {
        if (!isCell(cell) || !within(what, 0, 2) || !within(v, 0, what == 0 ? GREATEST_DRAFT : LAST_YEAR)) {
            return refuse(BEYOND);
        }
        int[] row = what == 0 ? bay.bed : what == 1 ? bay.from : bay.till;
        int was = row[cell];
        row[cell] = v;
        return was;
    }

    public int ofCell(int cell, int what) {
        if (!isCell(cell) || !within(what, 0, 5)) {
            return refuse(BEYOND);
        }
        switch (what) {
            case 0:
                return bay.bed[cell];
            case 1:
                return bay.from[cell];
            case 2:
                return bay.till[cell];
            case 3:
                return bay.depthIn(cell, bay.year);
            case 4:
                return bay.shownBy(bay.back, cell);
            default:
                return fleet.setAt(cell);
        }
    }

    public int set(int what, int v) {
        if (!within(what, 0, 2) || !within(v, 0, greatestSetting(what))) {
            return refuse(BEYOND);
        }
        int was;
        if (what == 0) {
            was = bay.year;
            bay.year = v;
        } else if (what == 1) {
            was = bay.back;
            bay.back = v;
        } else {
            was = bay.beam;
            bay.beam = v;
        }
        return was;
    }

    private int greatestSetting(int what) {
        if (what == 0) {
            return LAST_YEAR;
        }
        return what == 1 ? LAST_BACK : (1 << bay.cells) - 1;
    }

    public int ship(int km, int draft, int cell) {
        if (!isKindAndM(km) || !within(draft, 0, GREATEST_DRAFT) || !isCell(cell)) {
            return refuse(BEYOND);
        }
        if (fleet.ships >= MOST_SHIPS) {
            return refuse(FULL);
        }
        int ship = fleet.ships;
        fleet.kind[ship] = km / 10;
        fleet.m[ship] = km % 10;
        fleet.draft[ship] = draft;
        fleet.at[ship] = cell;
        fleet.lost[ship] = 0;
        fleet.ships++;
        return ship;
    }

    public int ofShip(int ship, int what) {
        if (!isShip(ship) || !within(what, 0, 5)) {
            return refuse(BEYOND);
        }
        switch (what) {
            case 0:
                return fleet.kind[ship];
            case 1:
                return fleet.m[ship];
            case 2:
                return fleet.draft[ship];
            case 3:
                return fleet.at[ship];
            case 4:
                return fleet.lost[ship];
            default:
                return believedNext(ship);
        }
    }

    private int believedNext(int ship) {
        int at = fleet.at[ship];
        if (at == 0) {
            return -1;
        }
        chart.draw(bay, bay.back);
        return chart.believed(fleet.kind[ship], fleet.m[ship], at - 1);
    }

    public int change(int ship, int what, int v) {
        if (!isShip(ship) || !within(what, 0, 2) || !within(v, 0, greatestChange(what))) {
            return refuse(BEYOND);
        }
        int[] row = what == 0 ? fleet.draft : what == 1 ? fleet.at : fleet.lost;
        int was = row[ship];
        row[ship] = v;
        return was;
    }

    private int greatestChange(int what) {
        if (what == 0) {
            return GREATEST_DRAFT;
        }
        return what == 1 ? bay.cells - 1 : 1;
    }

    public int become(int ship, int km) {
        if (!isShip(ship) || !isKindAndM(km)) {
            return refuse(BEYOND);
        }
        int was = fleet.kind[ship];
        fleet.kind[ship] = km / 10;
        fleet.m[ship] = km % 10;
        return was;
    }

    public int as(int ship, int kind) {
        if (!isShip(ship) || !within(kind, SHIP, GHOST)) {
            return refuse(BEYOND);
        }
        return isUnder(fleet.kind[ship], kind) ? fleet.m[ship] : refuse(KIND);
    }

    private static boolean isUnder(int kind, int upper) {
        int reached = kind;
        for (int step = SHIP; step <= GHOST; step++) {
            if (reached == upper) {
                return true;
            }
            reached = ABOVE[reached];
        }
        return false;
    }

    // ---- texts

    public int feed(long word, int n) {
        if (!within(n, 1, 8)) {
            return refuse(BEYOND);
        }
        if (desk.fed > MOST_BYTES - n) {
            return refuse(FULL);
        }
        for (int i = 0; i < n; i++) {
            desk.tape[desk.fed] = (int) (word >>> (8 * i)) & 255;
            desk.fed++;
        }
        return desk.fed;
    }

    public int text(int use) {
        if (!isUse(use)) {
            return refuse(BEYOND);
        }
        int fault = reader.faultOf(desk.tape, desk.fed, use);
        desk.fed = 0;
        if (fault >= 0) {
            return -10 - fault;
        }
        bay.lawOf(use).copyFrom(reader.law);
        return 1;
    }

    public int law(int use, int a, int b, int c) {
        return isUse(use) ? bay.give(use, a, b, c) : refuse(BEYOND);
    }

    // ---- hours

    public int hours(int n) {
        if (!within(n, 1, FAR)) {
            return refuse(BEYOND);
        }
        if (fleet.hour > LAST_HOUR - n) {
            return refuse(STATE);
        }
        chart.draw(bay, bay.back);
        for (int i = 0; i < n; i++) {
            passHour(fleet);
        }
        return fleet.countAt(0);
    }

    public int loose(int n) {
        if (!within(n, 1, 40)) {
            return refuse(BEYOND);
        }
        if (fleet.hour > LAST_HOUR - n) {
            return refuse(STATE);
        }
        for (int i = 0; i < n; i++) {
            bay.back = desk.nextDraw() % (LAST_BACK + 1);
            chart.draw(bay, bay.back);
            passHour(fleet);
        }
        return fleet.countAt(0);
    }

    public int depth(int cell, int year) {
        if (!isCell(cell) || !within(year, -99, LAST_YEAR)) {
            return refuse(BEYOND);
        }
        return bay.depthIn(cell, year);
    }

    /** An HOUR of a fleet, by the chart as it is drawn. */
    private void passHour(Fleet some) {
        for (int ship = 0; ship < some.ships; ship++) {
            if (some.lost[ship] == 0 && some.at[ship] > 0) {
                sail(some, ship);
            }
        }
        some.hour++;
    }

    private void sail(Fleet some, int ship) {
        int draft = some.draft[ship];
        int m = some.m[ship];
        int next = some.at[ship] - 1;
        if (chart.believed(some.kind[ship], m, next) >= draft) {
            some.at[ship] = next;
            some.lost[ship] = chart.truth[next] < draft ? 1 : 0;
        } else if (bay.give(ELSE_USE, draft, m, some.hour) == 1 && some.at[ship] < bay.cells - 1) {
            some.at[ship]++;
        }
    }

    // ---- what would be

    public int then(int n, int ship, int what) {
        if (!within(n, 0, FAR) || !isShip(ship) || !within(what, 0, 1)) {
            return refuse(BEYOND);
        }
        chart.draw(bay, bay.back);
        think(n);
        return what == 0 ? thought.at[ship] : thought.lost[ship];
    }

    /** The fleet as it would be behind n HOURS by the chart as it is drawn comes to be the thought one. */
    private void think(int n) {
        thought.copyFrom(fleet);
        for (int i = 0; i < n; i++) {
            passHour(thought);
        }
    }

    public int lost(int what) {
        if (!within(what, 0, 1)) {
            return refuse(BEYOND);
        }
        int lostNow = fleet.countLost();
        chart.draw(bay, bay.back);
        think(0);
        for (int n = 1; n <= FAR; n++) {
            passHour(thought);
            if (thought.countLost() > lostNow) {
                return what == 0 ? n : leastNewlyLost();
            }
        }
        return refuse(NONE);
    }

    private int leastNewlyLost() {
        int least = 0;
        for (int ship = fleet.ships - 1; ship >= 0; ship--) {
            if (thought.lost[ship] > fleet.lost[ship]) {
                least = ship;
            }
        }
        return least;
    }

    public int setting(int ships, int n) {
        if (!within(ships, 0, (1 << fleet.ships) - 1) || !within(n, 0, NEAR)) {
            return refuse(BEYOND);
        }
        for (int back = 0; back <= LAST_BACK; back++) {
            chart.draw(bay, back);
            think(n);
            if ((thought.setAt(0) & ships) == ships) {
                return back;
            }
        }
        return refuse(NONE);
    }

    public int leastFalse(int what) {
        if (!within(what, 0, 1)) {
            return refuse(BEYOND);
        }
        int best = 1;
        int fewest = MOST_CELLS + 1;
        for (int back = 1; back <= LAST_BACK; back++) {
            chart.draw(bay, back);
            int untrue = chart.countFalse();
            if (untrue < fewest) {
                fewest = untrue;
                best = back;
            }
        }
        return what == 0 ? best : fewest;
    }

    public int which(int sheet, int what) {
        if (!isSheet(sheet) || !within(what, 0, 1)) {
            return refuse(BEYOND);
        }
        Sheet told = sheets[sheet];
        if (told.isMissing() || told.length != bay.cells) {
            return refuse(NONE);
        }
        int many = 0;
        int least = -1;
        for (int back = LAST_BACK; back >= 0; back--) {
            if (isShownAs(told, back)) {
                many++;
                least = back;
            }
        }
        if (what == 0) {
            return many;
        }
        return many > 0 ? least : refuse(NONE);
    }

    private boolean isShownAs(Sheet told, int back) {
        for (int cell = 0; cell < told.length; cell++) {
            int number = told.numbers[cell];
            if (number >= 0 && number != bay.shownBy(back, cell)) {
                return false;
            }
        }
        return true;
    }

    public int struck(int cell) {
        if (!isCell(cell)) {
            return refuse(BEYOND);
        }
        chart.draw(bay, bay.back);
        think(FAR);
        return thought.setAt(cell) & thought.setLost();
    }

    public int dark(int n) {
        if (!within(n, 0, NEAR)) {
            return refuse(BEYOND);
        }
        int lostNow = fleet.countLost();
        chart.draw(bay, bay.back);
        int best = -1;
        int fewest = MOST_CELLS + 1;
        for (int out = 0; out < 1 << bay.cells; out++) {
            if ((out & ~bay.beam) == 0 && Integer.bitCount(out) < fewest) {
                chart.beam = bay.beam & ~out;
                think(n);
                if (thought.countLost() <= lostNow) {
                    best = out;
                    fewest = Integer.bitCount(out);
                }
            }
        }
        return best >= 0 ? best : refuse(NONE);
    }

    public int deep(int cell, int v) {
        if (!isCell(cell) || !within(v, 0, GREATEST_DEPTH)) {
            return refuse(BEYOND);
        }
        for (int ago = 0; ago <= LAST_BACK; ago++) {
            if (bay.depthIn(cell, bay.year - ago) >= v) {
                return ago;
            }
        }
        return refuse(NONE);
    }

    public int draws(int ship) {
        if (!isShip(ship)) {
            return refuse(BEYOND);
        }
        if (fleet.lost[ship] != 0) {
            return refuse(STATE);
        }
        chart.draw(bay, bay.back);
        for (int draft = GREATEST_DRAFT; draft >= 0; draft--) {
            think(0);
            thought.draft[ship] = draft;
            for (int i = 0; i < FAR; i++) {
                passHour(thought);
            }
            if (thought.at[ship] == 0) {
                return draft;
            }
        }
        return refuse(NONE);
    }

    public int traffic(int n, int what) {
        if (!within(n, 0, FAR) || !within(what, 0, 1)) {
            return refuse(BEYOND);
        }
        chart.draw(bay, bay.back);
        think(n);
        int afloat = ~thought.setLost();
        int busiest = 0;
        int most = -1;
        for (int cell = 0; cell < bay.cells; cell++) {
            int many = Integer.bitCount(thought.setAt(cell) & afloat);
            if (many > most) {
                busiest = cell;
                most = many;
            }
        }
        return what == 0 ? busiest : most;
    }

    public int odds(int ship, int n, int part) {
        if (!isShip(ship) || !within(n, 0, FAR) || !within(part, 0, 1)) {
            return refuse(BEYOND);
        }
        int good = 0;
        for (int back = 0; back < LIKELY_BACKS; back++) {
            chart.draw(bay, back);
            think(n);
            if (thought.at[ship] == 0) {
                good++;
            }
        }
        int divisor = greatestDivisor(good, LIKELY_BACKS);
        return (part == 0 ? good : LIKELY_BACKS) / divisor;
    }

    /** The greatest number from 1 to b that divides both. */
    private static int greatestDivisor(int a, int b) {
        int greatest = 1;
        for (int divisor = 2; divisor <= b; divisor++) {
            if (a % divisor == 0 && b % divisor == 0) {
                greatest = divisor;
            }
        }
        return greatest;
    }

    // ---- draws, voices, sheets, images, what is told

    public int seed(int v) {
        int was = desk.z;
        desk.z = v;
        return was;
    }

    public int voice(int ship, int act, int x) {
        if (!isShip(ship) || !within(act, 0, Speaker.LOGS)) {
            return refuse(BEYOND);
        }
        return speaker.speak(fleet.kind[ship], ship, fleet.m[ship], act, x);
    }

    public int trace(int i) {
        return within(i, 0, speaker.traced - 1) ? speaker.bodies[i] : refuse(NONE);
    }

    public int sheet(int sheet, int bits, int n) {
        if (!isSheet(sheet) || (bits != 0 && bits != 8 && bits != 16 && bits != 32)) {
            return refuse(BEYOND);
        }
        if (bits == 0) {
            sheets[sheet].renew(0, 0);
            return 1;
        }
        if (n < 0) {
            return refuse(STATE);
        }
        if (n > MOST_NUMBERS) {
            return refuse(BEYOND);
        }
        sheets[sheet].renew(bits, n);
        return 1;
    }

    public int put(int sheet, int i, int v) {
        if (!isSheet(sheet)) {
            return refuse(BEYOND);
        }
        Sheet row = sheets[sheet];
        if (row.isMissing()) {
            return refuse(NONE);
        }
        if (!within(i, 0, row.length - 1)) {
            return refuse(BEYOND);
        }
        row.numbers[i] = row.lowest(v);
        return 1;
    }

    public int move(int sheet, int i, int other, int j, int n) {
        if (!isSheet(sheet) || !isSheet(other)) {
            return refuse(BEYOND);
        }
        Sheet source = sheets[sheet];
        Sheet target = sheets[other];
        if (source.isMissing() || target.isMissing()) {
            return refuse(NONE);
        }
        if (source.bits != target.bits) {
            return refuse(KIND);
        }
        if (!source.holds(i, n) || !target.holds(j, n)) {
            return refuse(BEYOND);
        }
        System.arraycopy(source.numbers, i, target.numbers, j, n);
        return n;
    }

    public int beds(int sheet) {
        if (!isSheet(sheet)) {
            return refuse(BEYOND);
        }
        Sheet row = sheets[sheet];
        if (row.isMissing()) {
            return refuse(NONE);
        }
        int many = Math.min(row.length, bay.cells);
        for (int i = 0; i < many; i++) {
            if (!within(row.numbers[i], 0, GREATEST_DRAFT)) {
                return i;
            }
            bay.bed[i] = row.numbers[i];
        }
        return many;
    }

    public int judge(int sheet) {
        if (!isSheet(sheet)) {
            return refuse(BEYOND);
        }
        Sheet row = sheets[sheet];
        if (row.isMissing()) {
            return refuse(NONE);
        }
        int both = Math.min(row.length, fleet.ships);
        for (int i = 0; i < both; i++) {
            if (row.numbers[i] != fleet.at[i]) {
                return i;
            }
        }
        return row.length == fleet.ships ? -1 : both;
    }

    public int image() {
        keptBay.copyFrom(bay);
        keptFleet.copyFrom(fleet);
        keptDesk.copyFrom(desk);
        images++;
        return images;
    }

    public int restore() {
        if (images == 0) {
            return refuse(NONE);
        }
        bay.copyFrom(keptBay);
        fleet.copyFrom(keptFleet);
        desk.copyFrom(keptDesk);
        return fleet.hour;
    }

    public int tell(int v) {
        if (desk.waiting >= MOST_WAITING) {
            return refuse(FULL);
        }
        desk.waits[desk.waiting] = v;
        desk.waiting++;
        return desk.waiting;
    }

    public int check() {
        int many = desk.waiting;
        desk.waiting = 0;
        chart.draw(bay, bay.back);
        think(0);
        for (int i = 0; i < many; i++) {
            passHour(thought);
            if (desk.waits[i] != thought.countAt(0)) {
                return 1 + i;
            }
        }
        return 0;
    }

    public int count(int what) {
        switch (what) {
            case 0:
                return bay.cells;
            case 1:
                return fleet.ships;
            case 2:
                return fleet.hour;
            case 3:
                return bay.year;
            case 4:
                return bay.back;
            case 5:
                return bay.beam;
            case 6:
                return fleet.countAt(0);
            case 7:
                return fleet.countLost();
            case 8:
                return desk.fed;
            case 9:
                return desk.waiting;
            case 10:
                return speaker.traced;
            case 11:
                return desk.z;
            default:
                return refuse(BEYOND);
        }
    }

    public int told(int k) {
        return within(k, BEYOND, KIND) ? errors[k] : refuse(BEYOND);
    }

    // ---- what may be asked

    private int refuse(int error) {
        errors[error]++;
        return LOW - error;
    }

    private static boolean within(int v, int least, int greatest) {
        return v >= least && v <= greatest;
    }

    private boolean isCell(int cell) {
        return within(cell, 0, bay.cells - 1);
    }

    private boolean isShip(int ship) {
        return within(ship, 0, fleet.ships - 1);
    }

    private static boolean isKindAndM(int km) {
        return within(km, 0, 10 * GHOST + 9);
    }

    private static boolean isUse(int use) {
        return within(use, DEPTH_USE, ELSE_USE);
    }

    private static boolean isSheet(int sheet) {
        return within(sheet, 0, MOST_SHEETS - 1);
    }

    private static boolean has(int members, int member) {
        return (members >> member & 1) != 0;
    }

    /** The sea floor, the lens and the TEXTS. */
    private static final class Bay {
        int cells = 0;
        int year = 200;
        int back = 0;
        int beam = 0;
        final int[] bed = new int[MOST_CELLS];
        final int[] from = new int[MOST_CELLS];
        final int[] till = new int[MOST_CELLS];
        final Law deepness = new Law();
        final Law manner = new Law();

        void renew(int n) {
            cells = n;
            beam = 0;
            for (int cell = 0; cell < MOST_CELLS; cell++) {
                bed[cell] = 5;
                from[cell] = 1;
                till[cell] = 0;
            }
        }

        void copyFrom(Bay other) {
            cells = other.cells;
            year = other.year;
            back = other.back;
            beam = other.beam;
            System.arraycopy(other.bed, 0, bed, 0, MOST_CELLS);
            System.arraycopy(other.from, 0, from, 0, MOST_CELLS);
            System.arraycopy(other.till, 0, till, 0, MOST_CELLS);
            deepness.copyFrom(other.deepness);
            manner.copyFrom(other.manner);
        }

        Law lawOf(int use) {
            return use == DEPTH_USE ? deepness : manner;
        }

        /** What a USE gives. */
        int give(int use, int a, int b, int c) {
            Law law = lawOf(use);
            int without = use == DEPTH_USE ? c : 0;
            int given = law.isEmpty() ? without : law.value(a, b, c);
            return Math.max(0, Math.min(given, use == DEPTH_USE ? GREATEST_DEPTH : 1));
        }

        int depthIn(int cell, int anyYear) {
            int then = Math.max(0, anyYear);
            boolean rock = from[cell] <= then && then <= till[cell];
            return rock ? 0 : give(DEPTH_USE, cell, then, bed[cell]);
        }

        int shownBy(int someBack, int cell) {
            return depthIn(cell, has(beam, cell) ? year - someBack : year);
        }
    }

    /** The SHIPS, and the HOUR that it is for them. */
    private static final class Fleet {
        int ships = 0;
        int hour = 0;
        final int[] kind = new int[MOST_SHIPS];
        final int[] m = new int[MOST_SHIPS];
        final int[] draft = new int[MOST_SHIPS];
        final int[] at = new int[MOST_SHIPS];
        final int[] lost = new int[MOST_SHIPS];

        void copyFrom(Fleet other) {
            ships = other.ships;
            hour = other.hour;
            System.arraycopy(other.kind, 0, kind, 0, MOST_SHIPS);
            System.arraycopy(other.m, 0, m, 0, MOST_SHIPS);
            System.arraycopy(other.draft, 0, draft, 0, MOST_SHIPS);
            System.arraycopy(other.at, 0, at, 0, MOST_SHIPS);
            System.arraycopy(other.lost, 0, lost, 0, MOST_SHIPS);
        }

        int setAt(int cell) {
            return setOf(at, cell);
        }

        int setLost() {
            return setOf(lost, 1);
        }

        private int setOf(int[] row, int v) {
            int members = 0;
            for (int ship = 0; ship < ships; ship++) {
                if (row[ship] == v) {
                    members |= 1 << ship;
                }
            }
            return members;
        }

        int countAt(int cell) {
            return Integer.bitCount(setAt(cell));
        }

        int countLost() {
            return Integer.bitCount(setLost());
        }
    }

    /** THE TAPE, the numbers that wait, and z of the draws. */
    private static final class Desk {
        int z = 1;
        int fed = 0;
        int waiting = 0;
        final int[] tape = new int[MOST_BYTES];
        final int[] waits = new int[MOST_WAITING];

        void copyFrom(Desk other) {
            z = other.z;
            fed = other.fed;
            waiting = other.waiting;
            System.arraycopy(other.tape, 0, tape, 0, MOST_BYTES);
            System.arraycopy(other.waits, 0, waits, 0, MOST_WAITING);
        }

        int nextDraw() {
            z = z * 1103515245 + 12345;
            return z >>> 8;
        }
    }

    /**
     * The DEPTHS of all CELLS in the three YEARS that an HOUR asks for: they are the same
     * in every HOUR, so a TEXT need not be worked out anew for each SHIP.
     */
    private static final class Chart {
        int beam = 0;
        int cells = 0;
        final int[] truth = new int[MOST_CELLS];
        final int[] past = new int[MOST_CELLS];
        final int[] older = new int[MOST_CELLS];

        void draw(Bay bay, int back) {
            beam = bay.beam;
            cells = bay.cells;
            for (int cell = 0; cell < cells; cell++) {
                truth[cell] = bay.depthIn(cell, bay.year);
                past[cell] = bay.depthIn(cell, bay.year - back);
                older[cell] = bay.depthIn(cell, bay.year - 2 * back);
            }
        }

        /** How many CELLS would be SHOWN other than TRUE, if BEAM had them all. */
        int countFalse() {
            int many = 0;
            for (int cell = 0; cell < cells; cell++) {
                if (past[cell] != truth[cell]) {
                    many++;
                }
            }
            return many;
        }

        int believed(int kind, int m, int cell) {
            boolean lit = has(beam, cell);
            int real = truth[cell];
            int shown = lit ? past[cell] : real;
            switch (kind) {
                case SHIP:
                    return shown;
                case COLLIER:
                    return shown + m % 3;
                case ROWER:
                    return real;
                case STEAMER:
                    return Math.min(shown, real);
                case CUTTER:
                    return shown + m % 3 - 1;
                case SMUGGLER:
                    return Math.max(real, shown);
                default:
                    return Math.min(lit ? older[cell] : real, real);
            }
        }
    }

    /** A TEXT as a row of numbers (0 and above), NAMES and signs, each sign behind what it joins. */
    private static final class Law {
        static final int FIRST_NAME = -1;
        static final int LAST_NAME = -3;

        int length = 0;
        final int[] code = new int[MOST_BYTES];
        private final int[] stack = new int[MOST_BYTES];

        boolean isEmpty() {
            return length == 0;
        }

        void copyFrom(Law other) {
            length = other.length;
            System.arraycopy(other.code, 0, code, 0, MOST_BYTES);
        }

        void add(int entry) {
            if (length < MOST_BYTES) {
                code[length] = entry;
                length++;
            }
        }

        int value(int a, int b, int c) {
            int top = 0;
            for (int i = 0; i < length; i++) {
                int entry = code[i];
                if (entry >= LAST_NAME) {
                    if (top < MOST_BYTES) {
                        stack[top] = entry >= 0 ? entry : entry == FIRST_NAME ? a : entry == LAST_NAME ? c : b;
                        top++;
                    }
                } else if (entry == -'!') {
                    if (top > 0) {
                        stack[top - 1] = stack[top - 1] == 0 ? 1 : 0;
                    }
                } else if (top > 1) {
                    top--;
                    stack[top - 1] = joined(-entry, stack[top - 1], stack[top]);
                }
            }
            return top > 0 ? stack[0] : 0;
        }

        private static int joined(int sign, int a, int b) {
            switch (sign) {
                case '|':
                    return a != 0 || b != 0 ? 1 : 0;
                case '&':
                    return a != 0 && b != 0 ? 1 : 0;
                case '<':
                    return a < b ? 1 : 0;
                case '=':
                    return a == b ? 1 : 0;
                case '>':
                    return a > b ? 1 : 0;
                case '+':
                    return a + b;
                case '-':
                    return a - b;
                case '*':
                    return a * b;
                case '/':
                    return b == 0 ? 0 : a / b;
                default:
                    return b == 0 ? 0 : a % b;
            }
        }
    }

    /** Reads THE TAPE as a TEXT; each method reads one part of it and tells whether there was one. */
    private static final class Reader {
        // The NAMES of USE 0, then those of USE 1, in their order.
        private static final char[] NAMES = {'c', 'y', 'b', 'd', 'm', 'h'};
        private static final int MOST_DIGITS = 4;

        private final int[] bytes = new int[MOST_BYTES];
        private int length = 0;
        private int use = DEPTH_USE;
        private int place = 0;
        final Law law = new Law();

        /** The FAULT, or -1 if the bytes are a TEXT, which stands in law then. */
        int faultOf(int[] tape, int fed, int someUse) {
            System.arraycopy(tape, 0, bytes, 0, MOST_BYTES);
            length = fed;
            use = someUse;
            place = 0;
            law.length = 0;
            boolean whole = readEither(0) && place == length;
            return whole ? -1 : place;
        }

        private boolean readEither(int open) {
            if (!readBoth(open)) {
                return false;
            }
            while (place < length && bytes[place] == '|') {
                place++;
                if (!readBoth(open)) {
                    return false;
                }
                law.add(-'|');
            }
            return true;
        }

        private boolean readBoth(int open) {
            if (!readCompared(open)) {
                return false;
            }
            while (place < length && bytes[place] == '&') {
                place++;
                if (!readCompared(open)) {
                    return false;
                }
                law.add(-'&');
            }
            return true;
        }

        private boolean readCompared(int open) {
            if (!readSum(open)) {
                return false;
            }
            int sign = upcoming();
            if (sign != '<' && sign != '=' && sign != '>') {
                return true;
            }
            place++;
            if (!readSum(open)) {
                return false;
            }
            law.add(-sign);
            return true;
        }

        private boolean readSum(int open) {
            if (!readProduct(open)) {
                return false;
            }
            while (place < length && (bytes[place] == '+' || bytes[place] == '-')) {
                int sign = bytes[place];
                place++;
                if (!readProduct(open)) {
                    return false;
                }
                law.add(-sign);
            }
            return true;
        }

        private boolean readProduct(int open) {
            if (!readSingle(open)) {
                return false;
            }
            while (place < length && (bytes[place] == '*' || bytes[place] == '/' || bytes[place] == '%')) {
                int sign = bytes[place];
                place++;
                if (!readSingle(open)) {
                    return false;
                }
                law.add(-sign);
            }
            return true;
        }

        private boolean readSingle(int open) {
            int sign = upcoming();
            if (isDigit(sign)) {
                readNumber();
                return true;
            }
            if (sign == '!' || sign == '(') {
                return open < MOST_OPEN && readOpened(sign, open + 1);
            }
            return readName(sign);
        }

        private boolean readOpened(int sign, int open) {
            place++;
            if (sign == '!') {
                if (!readSingle(open)) {
                    return false;
                }
                law.add(-'!');
                return true;
            }
            if (!readEither(open) || upcoming() != ')') {
                return false;
            }
            place++;
            return true;
        }

        private void readNumber() {
            int number = 0;
            for (int digits = 0; digits < MOST_DIGITS && isDigit(upcoming()); digits++) {
                number = 10 * number + upcoming() - '0';
                place++;
            }
            law.add(number);
        }

        private boolean readName(int sign) {
            for (int i = 0; i < 3; i++) {
                if (sign == NAMES[3 * use + i]) {
                    place++;
                    law.add(Law.FIRST_NAME - i);
                    return true;
                }
            }
            return false;
        }

        /** The byte at the place, or -1 at the end. */
        private int upcoming() {
            return place < length ? bytes[place] : -1;
        }

        private static boolean isDigit(int sign) {
            return sign >= '0' && sign <= '9';
        }
    }

    /** Works out a VOICE and keeps THE TRACE of the latest. */
    private static final class Speaker {
        static final int SAILS = 0;
        static final int STEERS = 1;
        static final int SOUNDS = 2;
        static final int LOGS = 3;
        private static final int ACTS = 4;
        // For each KIND its BODIES by acts, 0 where it has none; a BODY's tens tell the KIND (and one more).
        private static final int[] BODIES = {
            10, 11, 12, 13,
            20, 0, 0, 0,
            0, 30, 0, 0,
            0, 0, 40, 0,
            0, 0, 0, 50,
            0, 60, 0, 0,
            0, 0, 70, 71
        };
        // Far above the five levels that the BODIES need.
        private static final int DEEPEST = 20;

        int traced = 0;
        final int[] bodies = new int[MOST_BODIES];
        private int kind = SHIP;
        private int number = 0;
        private int m = 0;

        int speak(int someKind, int someNumber, int someM, int act, int x) {
            kind = someKind;
            number = someNumber;
            m = someM;
            traced = 0;
            return own(act, x, 0);
        }

        private int own(int act, int x, int level) {
            return sayFrom(kind, act, x, level + 1);
        }

        private int above(int body, int act, int x, int level) {
            return sayFrom(ABOVE[body / 10 - 1], act, x, level + 1);
        }

        /** What the BODY of an act says that a KIND, or else the next one above with one, has. */
        private int sayFrom(int someKind, int act, int x, int level) {
            if (level > DEEPEST) {
                return 0;
            }
            int owner = someKind;
            for (int step = SHIP; step < GHOST && BODIES[ACTS * owner + act] == 0; step++) {
                owner = ABOVE[owner];
            }
            int body = BODIES[ACTS * owner + act];
            if (traced < MOST_BODIES) {
                bodies[traced] = body;
                traced++;
            }
            return say(body, x, level);
        }

        private int say(int body, int x, int level) {
            switch (body) {
                case 10:
                    return x + number;
                case 11:
                    return own(SAILS, x, level) * 2;
                case 12:
                    return x - m;
                case 13:
                    return own(STEERS, x, level) ^ own(SOUNDS, x, level);
                case 20:
                    return above(body, SAILS, x, level) * 3;
                case 30:
                    return above(body, STEERS, x, level) - own(SOUNDS, 1, level);
                case 40:
                    return -above(body, SOUNDS, x, level);
                case 50:
                    return above(body, LOGS, x, level) - own(SAILS, 2, level);
                case 60:
                    return above(body, STEERS, x + 1, level);
                case 70:
                    return above(body, SOUNDS, x, level) ^ number;
                default:
                    return own(STEERS, x, level) - above(body, LOGS, x, level);
            }
        }
    }

    /** A row of numbers of some bits; of 0 bits while it is missing. */
    private static final class Sheet {
        int bits = 0;
        int length = 0;
        final int[] numbers = new int[MOST_NUMBERS];

        void renew(int someBits, int n) {
            bits = someBits;
            length = n;
            for (int i = 0; i < MOST_NUMBERS; i++) {
                numbers[i] = 0;
            }
        }

        boolean isMissing() {
            return bits == 0;
        }

        /** The lowest bits of a number, as many as the row's numbers have. */
        int lowest(int v) {
            if (bits == 8) {
                return (byte) v;
            }
            return bits == 16 ? (short) v : v;
        }

        boolean holds(int i, int n) {
            return i >= 0 && n >= 0 && i <= length && n <= length - i;
        }
    }
}
