/** Promises 28 to 30: seed, voice, trace. */
public final class VoiceTest {
    /** A SHIP with its VOICES told in Java's own way, each BODY noted as it begins. */
    private static class Ship {
        final int n;
        final int m;
        final java.util.List<Integer> bodies = new java.util.ArrayList<>();

        Ship(int n, int m) {
            this.n = n;
            this.m = m;
        }

        void begin(int body) {
            bodies.add(body);
        }

        int sails(int x) {
            begin(10);
            return x + n;
        }

        int steers(int x) {
            begin(11);
            return sails(x) * 2;
        }

        int sounds(int x) {
            begin(12);
            return x - m;
        }

        int logs(int x) {
            begin(13);
            return steers(x) ^ sounds(x);
        }
    }

    private static class Collier extends Ship {
        Collier(int n, int m) {
            super(n, m);
        }

        @Override
        int sails(int x) {
            begin(20);
            return super.sails(x) * 3;
        }
    }

    private static class Rower extends Ship {
        Rower(int n, int m) {
            super(n, m);
        }

        @Override
        int steers(int x) {
            begin(30);
            return super.steers(x) - sounds(1);
        }
    }

    private static class Steamer extends Ship {
        Steamer(int n, int m) {
            super(n, m);
        }

        @Override
        int sounds(int x) {
            begin(40);
            return -super.sounds(x);
        }
    }

    private static final class Cutter extends Collier {
        Cutter(int n, int m) {
            super(n, m);
        }

        @Override
        int logs(int x) {
            begin(50);
            return super.logs(x) - sails(2);
        }
    }

    private static final class Smuggler extends Rower {
        Smuggler(int n, int m) {
            super(n, m);
        }

        @Override
        int steers(int x) {
            begin(60);
            return super.steers(x + 1);
        }
    }

    private static final class Ghost extends Steamer {
        Ghost(int n, int m) {
            super(n, m);
        }

        @Override
        int sounds(int x) {
            begin(70);
            return super.sounds(x) ^ n;
        }

        @Override
        int logs(int x) {
            begin(71);
            return steers(x) - super.logs(x);
        }
    }

    public static void main(String[] args) {
        promise28Seed();
        promise29Voice();
        promise29Beyond();
        promise29And30AllVoices();
        promise30Trace();
        Expect.end();
    }

    private static void promise28Seed() {
        OldLight x = new OldLight();
        Expect.due("seed(0)", x.seed(0), 1);
        Expect.due("seed(least)", x.seed(Integer.MIN_VALUE), 0);
        Expect.due("seed(-1000000001)", x.seed(-1000000001), Integer.MIN_VALUE);
        Expect.due("seed(9) may look like an ERROR", x.seed(9), -1000000001);
        Expect.due("but is none", x.told(1), 0);
        Expect.due("count(11)", x.count(11), 9);
        x.loose(1);
        Expect.due("z behind a draw", x.count(11), 9 * 1103515245 + 12345);
    }

    private static void promise29Voice() {
        OldLight x = new OldLight();
        x.ship(0, 0, 0);
        x.ship(3, 0, 0);
        Expect.due("sails: x + n", x.voice(1, 0, 4), 5);
        Expect.due("steers", x.voice(1, 1, 4), 10);
        Expect.due("sounds: x - m", x.voice(1, 2, 4), 1);
        Expect.due("logs", x.voice(1, 3, 4), 10 ^ 1);
        Expect.due("ints go round", x.voice(1, 0, Integer.MAX_VALUE), Integer.MIN_VALUE);
        Expect.due("any number", x.voice(0, 0, -1000000001), -1000000001);
        Expect.due("is no ERROR", x.told(1), 0);
        x.become(1, 63);
        Expect.due("GHOST sounds", x.voice(1, 2, 4), -1 ^ 1);
    }

    private static void promise29Beyond() {
        OldLight x = new OldLight();
        Expect.due("voice without SHIPS", x.voice(0, 0, 0), Expect.BEYOND);
        x.ship(0, 0, 0);
        x.voice(0, 1, 0);
        int[][] beyond = {{-1, 0}, {1, 0}, {0, -1}, {0, 4}};
        for (int[] a : beyond) {
            Expect.due("voice(" + a[0] + ", " + a[1] + ", 0)", x.voice(a[0], a[1], 0), Expect.BEYOND);
        }
        Expect.due("THE TRACE stays", x.count(10), 2);
        Expect.due("its second", x.trace(1), 10);
    }

    private static Ship shipOf(int kind, int n, int m) {
        switch (kind) {
            case 0:
                return new Ship(n, m);
            case 1:
                return new Collier(n, m);
            case 2:
                return new Rower(n, m);
            case 3:
                return new Steamer(n, m);
            case 4:
                return new Cutter(n, m);
            case 5:
                return new Smuggler(n, m);
            default:
                return new Ghost(n, m);
        }
    }

    private static int said(Ship ship, int act, int x) {
        switch (act) {
            case 0:
                return ship.sails(x);
            case 1:
                return ship.steers(x);
            case 2:
                return ship.sounds(x);
            default:
                return ship.logs(x);
        }
    }

    private static void promise29And30AllVoices() {
        int[] xs = {0, 1, -5, 1000, Integer.MAX_VALUE, Integer.MIN_VALUE, -1000000001};
        for (int kind = 0; kind < 7; kind++) {
            for (int act = 0; act < 4; act++) {
                OldLight light = new OldLight();
                for (int n = 0; n < 7; n++) {
                    light.ship(10 * kind + (n * 3 + 2) % 10, 0, 0);
                }
                for (int i = 0; i < 7; i++) {
                    Ship ship = shipOf(kind, i, (i * 3 + 2) % 10);
                    String call = "KIND " + kind + ", voice(" + i + ", " + act + ", " + xs[i] + ")";
                    Expect.due(call, light.voice(i, act, xs[i]), said(ship, act, xs[i]));
                    Expect.due(call + ": BODIES", light.count(10), ship.bodies.size());
                    for (int j = 0; j < ship.bodies.size(); j++) {
                        Expect.due(call + ": trace(" + j + ")", light.trace(j), ship.bodies.get(j));
                    }
                    Expect.due(call + ": none more", light.trace(ship.bodies.size()), Expect.NONE);
                }
            }
        }
    }

    private static void promise30Trace() {
        OldLight x = new OldLight();
        x.ship(60, 0, 0);
        x.voice(0, 3, 1);
        int[] due = {71, 11, 10, 13, 11, 10, 70, 40, 12};
        for (int i = 0; i < due.length; i++) {
            Expect.due("trace(" + i + ")", x.trace(i), due[i]);
        }
        Expect.due("trace(-1)", x.trace(-1), Expect.NONE);
        Expect.due("trace(9)", x.trace(9), Expect.NONE);
        Expect.due("trace(greatest)", x.trace(Integer.MAX_VALUE), Expect.NONE);
        x.voice(0, 0, 1);
        Expect.due("only the latest: trace(0)", x.trace(0), 10);
        Expect.due("only the latest: trace(1)", x.trace(1), Expect.NONE);
    }
}
