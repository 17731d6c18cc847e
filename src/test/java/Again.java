import java.util.ArrayDeque;
import java.util.ArrayList;
import java.util.Arrays;
import java.util.Deque;
import java.util.List;
import java.util.function.IntPredicate;
import java.util.stream.IntStream;

/**
 * The whole document told again, in the plainest way that Java has: KINDS are classes, ERRORS are
 * exceptions, what would be is asked of a copy. RunTest holds the answers of OldLight against it.
 */
final class Again {
    private static final int LOW = -1000000000;

    /** An ERROR, LOW - k. */
    private static final class Refusal extends RuntimeException {
        private static final long serialVersionUID = 1L;
        final int k;

        Refusal(int k) {
            super("LOW - " + k, null, false, false);
            this.k = k;
        }
    }

    private static final Refusal BEYOND = new Refusal(1);
    private static final Refusal NONE = new Refusal(2);
    private static final Refusal STATE = new Refusal(3);
    private static final Refusal FULL = new Refusal(4);
    private static final Refusal KIND = new Refusal(5);

    /** What an act answers, unless it is refused. */
    private interface Act {
        int answer();
    }

    private int acted(Act act) {
        try {
            return act.answer();
        } catch (Refusal refusal) {
            told[refusal.k]++;
            return LOW - refusal.k;
        }
    }

    private static void ask(boolean isSo, Refusal otherwise) {
        if (!isSo) {
            throw otherwise;
        }
    }

    private static void within(int v, int least, int greatest) {
        ask(least <= v && v <= greatest, BEYOND);
    }

    // ---- the bay as it is, or as it would be

    private static final class Cell {
        int bed = 5;
        int from = 1;
        int till = 0;
    }

    /** All that an IMAGE keeps. */
    private static final class World {
        List<Cell> cells = new ArrayList<>();
        List<Ship> ships = new ArrayList<>();
        boolean[] beam = new boolean[8];
        int year = 200;
        int back = 0;
        int hour = 0;
        Law[] laws = new Law[2];
        StringBuilder tape = new StringBuilder();
        List<Integer> numbers = new ArrayList<>();
        int z = 1;

        World copy() {
            World copy = new World();
            for (Cell cell : cells) {
                Cell other = new Cell();
                other.bed = cell.bed;
                other.from = cell.from;
                other.till = cell.till;
                copy.cells.add(other);
            }
            for (Ship ship : ships) {
                copy.ships.add(ship.as(copy, ship.kind(), ship.m));
            }
            copy.beam = beam.clone();
            copy.year = year;
            copy.back = back;
            copy.hour = hour;
            copy.laws = laws.clone();
            copy.tape.append(tape);
            copy.numbers.addAll(numbers);
            copy.z = z;
            return copy;
        }

        int give(int use, int... names) {
            int most = use == 0 ? 19 : 1;
            int v = laws[use] != null ? laws[use].value(names) : use == 0 ? names[2] : 0;
            return v < 0 ? 0 : v > most ? most : v;
        }

        int depth(int cell, int anyYear) {
            int then = anyYear < 0 ? 0 : anyYear;
            Cell it = cells.get(cell);
            boolean rock = then >= it.from && then <= it.till;
            return rock ? 0 : give(0, cell, then, it.bed);
        }

        int truth(int cell) {
            return depth(cell, year);
        }

        int shown(int cell, int yearsBack) {
            return beam[cell] ? depth(cell, year - yearsBack) : truth(cell);
        }

        void passHour() {
            for (Ship ship : ships) {
                if (!ship.lost && ship.at != 0) {
                    ship.passHour();
                }
            }
            hour++;
        }

        World behind(int n) {
            World then = copy();
            for (int i = 0; i < n; i++) {
                then.passHour();
            }
            return then;
        }

        World withBack(int someBack) {
            World other = copy();
            other.back = someBack;
            return other;
        }

        int inAt0() {
            return (int) ships.stream().filter(ship -> ship.at == 0).count();
        }

        int lost() {
            return (int) ships.stream().filter(ship -> ship.lost).count();
        }
    }

    private static int set(int many, IntPredicate has) {
        return IntStream.range(0, many).filter(has).map(i -> 1 << i).sum();
    }

    // ---- ships, by KINDS

    private static class Ship {
        final World world;
        final int number;
        final List<Integer> bodies;
        int m;
        int draft;
        int at;
        boolean lost;

        Ship(World world, int number, List<Integer> bodies) {
            this.world = world;
            this.number = number;
            this.bodies = bodies;
        }

        static Ship of(World world, int number, List<Integer> bodies, int kind) {
            switch (kind) {
                case 0: return new Ship(world, number, bodies);
                case 1: return new Collier(world, number, bodies);
                case 2: return new Rower(world, number, bodies);
                case 3: return new Steamer(world, number, bodies);
                case 4: return new Cutter(world, number, bodies);
                case 5: return new Smuggler(world, number, bodies);
                default: return new Ghost(world, number, bodies);
            }
        }

        /** The same SHIP, of a KIND and with an m, in a world. */
        Ship as(World some, int kind, int someM) {
            Ship other = of(some, number, bodies, kind);
            other.m = someM;
            other.draft = draft;
            other.at = at;
            other.lost = lost;
            return other;
        }

        int kind() {
            return 0;
        }

        int believes(int cell) {
            return world.shown(cell, world.back);
        }

        void passHour() {
            if (believes(at - 1) >= draft) {
                at--;
                lost = world.truth(at) < draft;
            } else {
                int does = world.give(1, draft, m, world.hour);
                at = does == 1 && at + 1 < world.cells.size() ? at + 1 : at;
            }
        }

        int say(int act, int x) {
            bodies.clear();
            return act == 0 ? sails(x) : act == 1 ? steers(x) : act == 2 ? sounds(x) : logs(x);
        }

        int sails(int x) {
            bodies.add(10);
            return x + number;
        }

        int steers(int x) {
            bodies.add(11);
            return sails(x) * 2;
        }

        int sounds(int x) {
            bodies.add(12);
            return x - m;
        }

        int logs(int x) {
            bodies.add(13);
            return steers(x) ^ sounds(x);
        }
    }

    private static class Collier extends Ship {
        Collier(World world, int number, List<Integer> bodies) {
            super(world, number, bodies);
        }

        @Override
        int kind() {
            return 1;
        }

        @Override
        int believes(int cell) {
            return super.believes(cell) + m % 3;
        }

        @Override
        int sails(int x) {
            bodies.add(20);
            return super.sails(x) * 3;
        }
    }

    private static class Rower extends Ship {
        Rower(World world, int number, List<Integer> bodies) {
            super(world, number, bodies);
        }

        @Override
        int kind() {
            return 2;
        }

        @Override
        int believes(int cell) {
            return world.truth(cell);
        }

        @Override
        int steers(int x) {
            bodies.add(30);
            return super.steers(x) - sounds(1);
        }
    }

    private static class Steamer extends Ship {
        Steamer(World world, int number, List<Integer> bodies) {
            super(world, number, bodies);
        }

        @Override
        int kind() {
            return 3;
        }

        int yearsBack() {
            return world.back;
        }

        @Override
        int believes(int cell) {
            return Math.min(world.shown(cell, yearsBack()), world.truth(cell));
        }

        @Override
        int sounds(int x) {
            bodies.add(40);
            return -super.sounds(x);
        }
    }

    private static final class Cutter extends Collier {
        Cutter(World world, int number, List<Integer> bodies) {
            super(world, number, bodies);
        }

        @Override
        int kind() {
            return 4;
        }

        @Override
        int believes(int cell) {
            return super.believes(cell) - 1;
        }

        @Override
        int logs(int x) {
            bodies.add(50);
            return super.logs(x) - sails(2);
        }
    }

    private static final class Smuggler extends Rower {
        Smuggler(World world, int number, List<Integer> bodies) {
            super(world, number, bodies);
        }

        @Override
        int kind() {
            return 5;
        }

        @Override
        int believes(int cell) {
            return Math.max(super.believes(cell), world.shown(cell, world.back));
        }

        @Override
        int steers(int x) {
            bodies.add(60);
            return super.steers(x + 1);
        }
    }

    private static final class Ghost extends Steamer {
        Ghost(World world, int number, List<Integer> bodies) {
            super(world, number, bodies);
        }

        @Override
        int kind() {
            return 6;
        }

        @Override
        int yearsBack() {
            return 2 * world.back;
        }

        @Override
        int sounds(int x) {
            bodies.add(70);
            return super.sounds(x) ^ number;
        }

        @Override
        int logs(int x) {
            bodies.add(71);
            return steers(x) - super.logs(x);
        }
    }

    // ---- texts

    /** What a TEXT gives with its NAMES. */
    private interface Law {
        int value(int[] names);
    }

    private static final String[] NAMES = {"cyb", "dmh"};

    /** The FAULT of some bytes as a TEXT of a USE, or -1: byte by byte, by what may come next. */
    static int faultOf(String bytes, int use) {
        Deque<Character> open = new ArrayDeque<>();
        Deque<Boolean> compared = new ArrayDeque<>();
        compared.push(false);
        boolean begins = true;
        int digits = 0;
        for (int place = 0; place < bytes.length(); place++) {
            char c = bytes.charAt(place);
            boolean digit = c >= '0' && c <= '9';
            if (begins && (c == '!' || c == '(')) {
                if (open.size() == 5) {
                    return place;
                }
                open.push(c);
                if (c == '(') {
                    compared.push(false);
                }
            } else if (begins) {
                if (!digit && NAMES[use].indexOf(c) < 0) {
                    return place;
                }
                begins = false;
                digits = digit ? 1 : 0;
                closeNots(open);
            } else if (digit && digits >= 1 && digits < 4) {
                digits++;
            } else if (c == ')' && !open.isEmpty()) {
                open.pop();
                compared.pop();
                digits = 0;
                closeNots(open);
            } else if ("<=>".indexOf(c) >= 0 && !compared.peek() || "+-*/%".indexOf(c) >= 0) {
                if ("<=>".indexOf(c) >= 0) {
                    compared.pop();
                    compared.push(true);
                }
                begins = true;
            } else if (c == '|' || c == '&') {
                compared.pop();
                compared.push(false);
                begins = true;
            } else {
                return place;
            }
        }
        return begins || !open.isEmpty() ? bytes.length() : -1;
    }

    /** What stands behind a ! is whole: so is the ! itself. */
    private static void closeNots(Deque<Character> open) {
        while (!open.isEmpty() && open.peek() == '!') {
            open.pop();
        }
    }

    private static final String[] SIGNS = {"|", "&", "<=>", "+-", "*/%"};

    /** A TEXT without FAULT, split at the last of its loosest signs that stand outside of ( ). */
    private static Law lawOf(String text, int use) {
        for (String signs : SIGNS) {
            int deep = 0;
            for (int i = text.length() - 1; i >= 0; i--) {
                char c = text.charAt(i);
                deep += c == ')' ? 1 : c == '(' ? -1 : 0;
                if (deep == 0 && signs.indexOf(c) >= 0) {
                    return joined(c, lawOf(text.substring(0, i), use), lawOf(text.substring(i + 1), use));
                }
            }
        }
        if (text.charAt(0) == '!') {
            Law law = lawOf(text.substring(1), use);
            return names -> truth(law.value(names) == 0);
        }
        if (text.charAt(0) == '(') {
            return lawOf(text.substring(1, text.length() - 1), use);
        }
        int name = NAMES[use].indexOf(text.charAt(0));
        int number = name >= 0 ? 0 : Integer.parseInt(text);
        return name >= 0 ? names -> names[name] : names -> number;
    }

    private static int truth(boolean isSo) {
        return isSo ? 1 : 0;
    }

    private static Law joined(char sign, Law left, Law right) {
        return names -> {
            int a = left.value(names);
            int b = right.value(names);
            switch (sign) {
                case '|': return truth(a != 0 | b != 0);
                case '&': return truth(a != 0 & b != 0);
                case '<': return truth(a < b);
                case '=': return truth(a == b);
                case '>': return truth(a > b);
                case '+': return a + b;
                case '-': return a - b;
                case '*': return a * b;
                case '/': return b == 0 ? 0 : (int) ((long) a / b);
                default: return b == 0 ? 0 : (int) ((long) a % b);
            }
        };
    }

    // ---- the object

    private World world = new World();
    private World kept = null;
    private int images = 0;
    private final List<Integer> bodies = new ArrayList<>();
    private final int[][] sheets = new int[4][];
    private final int[] bits = new int[4];
    private final int[] told = new int[6];

    Again() {
        lay(8);
    }

    private void lay(int n) {
        world.cells.clear();
        for (int i = 0; i < n; i++) {
            world.cells.add(new Cell());
        }
        Arrays.fill(world.beam, false);
    }

    private void cell(int cell) {
        within(cell, 0, world.cells.size() - 1);
    }

    private Ship of(int ship) {
        within(ship, 0, world.ships.size() - 1);
        return world.ships.get(ship);
    }

    /** The place of a SHEET that is there. */
    private int[] row(int sheet) {
        within(sheet, 0, 3);
        ask(sheets[sheet] != null, NONE);
        return sheets[sheet];
    }

    // ---- the bay, the lens, ships

    int bay(int n) {
        return acted(() -> {
            within(n, 3, 8);
            ask(world.ships.isEmpty(), STATE);
            int was = world.cells.size();
            lay(n);
            return was;
        });
    }

    int lay(int cell, int what, int v) {
        return acted(() -> {
            cell(cell);
            within(what, 0, 2);
            within(v, 0, what == 0 ? 9 : 999);
            Cell it = world.cells.get(cell);
            int was = what == 0 ? it.bed : what == 1 ? it.from : it.till;
            it.bed = what == 0 ? v : it.bed;
            it.from = what == 1 ? v : it.from;
            it.till = what == 2 ? v : it.till;
            return was;
        });
    }

    int ofCell(int cell, int what) {
        return acted(() -> {
            cell(cell);
            within(what, 0, 5);
            Cell it = world.cells.get(cell);
            int ships = set(world.ships.size(), i -> world.ships.get(i).at == cell);
            int[] all = {it.bed, it.from, it.till, world.truth(cell), world.shown(cell, world.back), ships};
            return all[what];
        });
    }

    int set(int what, int v) {
        return acted(() -> {
            within(what, 0, 2);
            int n = world.cells.size();
            within(v, 0, what == 0 ? 999 : what == 1 ? 99 : (1 << n) - 1);
            int was = what == 0 ? world.year : what == 1 ? world.back : set(n, i -> world.beam[i]);
            world.year = what == 0 ? v : world.year;
            world.back = what == 1 ? v : world.back;
            for (int i = 0; i < n && what == 2; i++) {
                world.beam[i] = (v >> i & 1) == 1;
            }
            return was;
        });
    }

    int ship(int km, int draft, int cell) {
        return acted(() -> {
            within(km, 0, 69);
            within(draft, 0, 9);
            cell(cell);
            int number = world.ships.size();
            ask(number < 7, FULL);
            Ship ship = Ship.of(world, number, bodies, km / 10);
            ship.m = km % 10;
            ship.draft = draft;
            ship.at = cell;
            world.ships.add(ship);
            return number;
        });
    }

    int ofShip(int ship, int what) {
        return acted(() -> {
            Ship it = of(ship);
            within(what, 0, 5);
            int next = it.at == 0 ? -1 : it.believes(it.at - 1);
            int[] all = {it.kind(), it.m, it.draft, it.at, truth(it.lost), next};
            return all[what];
        });
    }

    int change(int ship, int what, int v) {
        return acted(() -> {
            Ship it = of(ship);
            within(what, 0, 2);
            within(v, 0, what == 0 ? 9 : what == 1 ? world.cells.size() - 1 : 1);
            int was = what == 0 ? it.draft : what == 1 ? it.at : truth(it.lost);
            it.draft = what == 0 ? v : it.draft;
            it.at = what == 1 ? v : it.at;
            it.lost = what == 2 ? v == 1 : it.lost;
            return was;
        });
    }

    int become(int ship, int km) {
        return acted(() -> {
            Ship it = of(ship);
            within(km, 0, 69);
            world.ships.set(ship, it.as(world, km / 10, km % 10));
            return it.kind();
        });
    }

    int as(int ship, int kind) {
        return acted(() -> {
            Ship it = of(ship);
            within(kind, 0, 6);
            Class<?> wanted = Ship.of(world, 0, bodies, kind).getClass();
            ask(wanted.isInstance(it), KIND);
            return it.m;
        });
    }

    // ---- texts

    int feed(long word, int n) {
        return acted(() -> {
            within(n, 1, 8);
            ask(world.tape.length() + n <= 50, FULL);
            for (long rest = word, i = 0; i < n; i++, rest >>= 8) {
                world.tape.append((char) (rest & 0xFF));
            }
            return world.tape.length();
        });
    }

    int text(int use) {
        return acted(() -> {
            within(use, 0, 1);
            String bytes = world.tape.toString();
            world.tape.setLength(0);
            int fault = faultOf(bytes, use);
            world.laws[use] = fault < 0 ? lawOf(bytes, use) : world.laws[use];
            return fault < 0 ? 1 : -10 - fault;
        });
    }

    int law(int use, int a, int b, int c) {
        return acted(() -> {
            within(use, 0, 1);
            return world.give(use, a, b, c);
        });
    }

    // ---- hours

    int hours(int n) {
        return acted(() -> {
            within(n, 1, 60);
            ask(world.hour + n <= 9999, STATE);
            for (int i = 0; i < n; i++) {
                world.passHour();
            }
            return world.inAt0();
        });
    }

    int loose(int n) {
        return acted(() -> {
            within(n, 1, 40);
            ask(world.hour + n <= 9999, STATE);
            for (int i = 0; i < n; i++) {
                world.z = world.z * 1103515245 + 12345;
                world.back = (world.z >>> 8) % 100;
                world.passHour();
            }
            return world.inAt0();
        });
    }

    int depth(int cell, int year) {
        return acted(() -> {
            cell(cell);
            within(year, -99, 999);
            return world.depth(cell, year);
        });
    }

    // ---- what would be

    int then(int n, int ship, int what) {
        return acted(() -> {
            within(n, 0, 60);
            of(ship);
            within(what, 0, 1);
            Ship it = world.behind(n).ships.get(ship);
            return what == 0 ? it.at : truth(it.lost);
        });
    }

    int lost(int what) {
        return acted(() -> {
            within(what, 0, 1);
            World then = world.copy();
            for (int n = 0; n <= 60; n++) {
                if (then.lost() > world.lost()) {
                    for (int i = 0; i < then.ships.size(); i++) {
                        if (then.ships.get(i).lost && !world.ships.get(i).lost) {
                            return what == 0 ? n : i;
                        }
                    }
                }
                then.passHour();
            }
            throw NONE;
        });
    }

    int setting(int ships, int n) {
        return acted(() -> {
            within(ships, 0, (1 << world.ships.size()) - 1);
            within(n, 0, 20);
            for (int back = 0; back <= 99; back++) {
                World then = world.withBack(back).behind(n);
                if (then.ships.stream().allMatch(ship -> ship.at == 0 || (ships >> ship.number & 1) == 0)) {
                    return back;
                }
            }
            throw NONE;
        });
    }

    int leastFalse(int what) {
        return acted(() -> {
            within(what, 0, 1);
            World lit = world.copy();
            Arrays.fill(lit.beam, true);
            int[] untrue = new int[100];
            for (int back = 1; back <= 99; back++) {
                for (int cell = 0; cell < lit.cells.size(); cell++) {
                    untrue[back] += lit.shown(cell, back) != lit.truth(cell) ? 1 : 0;
                }
            }
            int fewest = Arrays.stream(untrue).skip(1).min().getAsInt();
            int best = 1;
            while (untrue[best] > fewest) {
                best++;
            }
            return what == 0 ? best : fewest;
        });
    }

    int which(int sheet, int what) {
        return acted(() -> {
            within(sheet, 0, 3);
            within(what, 0, 1);
            int[] row = row(sheet);
            ask(row.length == world.cells.size(), NONE);
            int[] backs = IntStream.range(0, 100).filter(back -> IntStream.range(0, row.length)
                .allMatch(cell -> row[cell] < 0 || row[cell] == world.shown(cell, back))).toArray();
            ask(what == 0 || backs.length > 0, NONE);
            return what == 0 ? backs.length : backs[0];
        });
    }

    int struck(int cell) {
        return acted(() -> {
            cell(cell);
            List<Ship> then = world.behind(60).ships;
            return set(then.size(), i -> then.get(i).lost && then.get(i).at == cell);
        });
    }

    int dark(int n) {
        return acted(() -> {
            within(n, 0, 20);
            int cells = world.cells.size();
            for (int many = 0; many <= cells; many++) {
                for (int out = 0; out < 1 << cells; out++) {
                    if (Integer.bitCount(out) == many && isSafeWithout(out, n)) {
                        return out;
                    }
                }
            }
            throw NONE;
        });
    }

    private boolean isSafeWithout(int out, int n) {
        World other = world.copy();
        for (int cell = 0; cell < world.cells.size(); cell++) {
            other.beam[cell] &= (out >> cell & 1) == 0;
        }
        return other.behind(n).lost() <= world.lost();
    }

    int deep(int cell, int v) {
        return acted(() -> {
            cell(cell);
            within(v, 0, 19);
            return IntStream.rangeClosed(0, 99).filter(ago -> world.depth(cell, world.year - ago) >= v)
                .findFirst().orElseThrow(() -> NONE);
        });
    }

    int draws(int ship) {
        return acted(() -> {
            ask(!of(ship).lost, STATE);
            for (int draft = 9; draft >= 0; draft--) {
                World other = world.copy();
                other.ships.get(ship).draft = draft;
                if (other.behind(60).ships.get(ship).at == 0) {
                    return draft;
                }
            }
            throw NONE;
        });
    }

    int traffic(int n, int what) {
        return acted(() -> {
            within(n, 0, 60);
            within(what, 0, 1);
            int[] many = new int[world.cells.size()];
            world.behind(n).ships.stream().filter(ship -> !ship.lost).forEach(ship -> many[ship.at]++);
            int most = Arrays.stream(many).max().getAsInt();
            int cell = 0;
            while (many[cell] < most) {
                cell++;
            }
            return what == 0 ? cell : most;
        });
    }

    int odds(int ship, int n, int part) {
        return acted(() -> {
            of(ship);
            within(n, 0, 60);
            within(part, 0, 1);
            int in = 0;
            for (int back = 0; back < 20; back++) {
                in += truth(world.withBack(back).behind(n).ships.get(ship).at == 0);
            }
            int below = 20;
            for (int prime : new int[] {2, 2, 5}) {
                if (in % prime == 0 && below % prime == 0) {
                    in /= prime;
                    below /= prime;
                }
            }
            return part == 0 ? in : below;
        });
    }

    // ---- draws, voices, sheets, images, what is told

    int seed(int v) {
        int was = world.z;
        world.z = v;
        return was;
    }

    int voice(int ship, int act, int x) {
        return acted(() -> {
            Ship it = of(ship);
            within(act, 0, 3);
            return it.say(act, x);
        });
    }

    int trace(int i) {
        return acted(() -> {
            ask(i >= 0 && i < Math.min(40, bodies.size()), NONE);
            return bodies.get(i);
        });
    }

    int sheet(int sheet, int ofBits, int n) {
        return acted(() -> {
            within(sheet, 0, 3);
            ask(ofBits == 0 || ofBits == 8 || ofBits == 16 || ofBits == 32, BEYOND);
            if (ofBits != 0) {
                ask(n >= 0, STATE);
                within(n, 0, 40);
            }
            bits[sheet] = ofBits;
            sheets[sheet] = ofBits == 0 ? null : new int[n];
            return 1;
        });
    }

    int put(int sheet, int i, int v) {
        return acted(() -> {
            int[] row = row(sheet);
            within(i, 0, row.length - 1);
            row[i] = v << 32 - bits[sheet] >> 32 - bits[sheet];
            return 1;
        });
    }

    int move(int sheet, int i, int other, int j, int n) {
        return acted(() -> {
            within(sheet, 0, 3);
            within(other, 0, 3);
            int[] from = row(sheet);
            int[] to = row(other);
            ask(bits[sheet] == bits[other], KIND);
            ask(n >= 0 && i >= 0 && j >= 0, BEYOND);
            ask((long) i + n <= from.length && (long) j + n <= to.length, BEYOND);
            int[] were = from.clone();
            for (int k = 0; k < n; k++) {
                to[j + k] = were[i + k];
            }
            return n;
        });
    }

    int beds(int sheet) {
        return acted(() -> {
            int[] row = row(sheet);
            int i = 0;
            while (i < row.length && i < world.cells.size() && row[i] >= 0 && row[i] <= 9) {
                world.cells.get(i).bed = row[i];
                i++;
            }
            return i;
        });
    }

    int judge(int sheet) {
        return acted(() -> {
            int[] at = world.ships.stream().mapToInt(ship -> ship.at).toArray();
            return Arrays.mismatch(row(sheet), at);
        });
    }

    int image() {
        kept = world.copy();
        images++;
        return images;
    }

    int restore() {
        return acted(() -> {
            ask(kept != null, NONE);
            world = kept.copy();
            return world.hour;
        });
    }

    int tell(int v) {
        return acted(() -> {
            ask(world.numbers.size() < 20, FULL);
            world.numbers.add(v);
            return world.numbers.size();
        });
    }

    int check() {
        List<Integer> numbers = world.numbers;
        world.numbers = new ArrayList<>();
        for (int i = 0; i < numbers.size(); i++) {
            if (numbers.get(i) != world.behind(i + 1).inAt0()) {
                return 1 + i;
            }
        }
        return 0;
    }

    int count(int what) {
        return acted(() -> {
            within(what, 0, 11);
            int beam = set(8, i -> world.beam[i]);
            int[] all = {world.cells.size(), world.ships.size(), world.hour, world.year, world.back, beam, world.inAt0(),
                world.lost(), world.tape.length(), world.numbers.size(), Math.min(40, bodies.size()), world.z};
            return all[what];
        });
    }

    int told(int k) {
        return acted(() -> {
            within(k, 1, 5);
            return told[k];
        });
    }
}
