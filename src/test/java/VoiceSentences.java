/** Sentences on VOICES and THE TRACE: of the Terms, and of promises 29 and 30. */
final class VoiceSentences extends Sentence {
    private static final int[] XS = {0, 1, -1, 7, GREATEST, GREATEST - 1, GREATEST - 6, LEAST, LEAST + 1, LEAST + 9, 1 << 30, BEYOND};
    private static final int N = 6;
    private static final int M = 9;
    private static final int SAILS = 0;
    private static final int STEERS = 1;
    private static final int SOUNDS = 2;
    private static final int LOGS = 3;

    static void all() {
        voices();
        ship();
        shipSteers();
        shipSounds();
        shipLogs();
        collier();
        rower();
        steamer();
        cutter();
        smuggler();
        ghost();
        ghostLogs();
        whichBody();
        theTrace();
        voice();
        voiceBeyond();
        trace();
        traceNone();
    }

    /** Seven SHIPS, the last (n 6) of a KIND with m 9. */
    private static OldLight spoken(int kind) {
        OldLight x = new OldLight();
        for (int i = 0; i < N; i++) {
            x.ship(0, 0, 0);
        }
        x.ship(10 * kind + M, 0, 0);
        return x;
    }

    private static void says(int kind, int act, int x, int want, int... bodies) {
        OldLight light = spoken(kind);
        String call = "KIND " + kind + ", voice(6, " + act + ", " + x + ")";
        due(call, light.voice(N, act, x), want);
        due(call + ", BODIES", light.count(10), bodies.length);
        row(call + ", trace", light::trace, bodies);
        due(call + ", no more", light.trace(bodies.length), NONE);
        due(call + ", no ERROR", light.told(1), 0);
    }

    private static void voices() {
        term("VOICES of a SHIP, with a number x (ints that go round); n is the number, m as told: 0 sails, 1 steers, 2 sounds,"
            + " 3 logs.");
        OldLight x = new OldLight();
        Made.ships(x, new int[] {0, 0, 0}, new int[] {9, 0, 0});
        due("the first, m 0, sails", x.voice(0, 0, 5), 5);
        due("the first, m 0, steers", x.voice(0, 1, 5), 10);
        due("the first, m 0, sounds", x.voice(0, 2, 5), 5);
        due("the first, m 0, logs", x.voice(0, 3, 5), 15);
        due("the second, m 9, sails", x.voice(1, 0, 5), 6);
        due("the second, m 9, steers", x.voice(1, 1, 5), 12);
        due("the second, m 9, sounds", x.voice(1, 2, 5), -4);
        due("the second, m 9, logs", x.voice(1, 3, 5), 12 ^ -4);
        due("round above", x.voice(1, 0, GREATEST), LEAST);
        due("round below", x.voice(1, 2, LEAST + 8), GREATEST);
        due("round twice as much", x.voice(1, 1, 1 << 30), LEAST + 2);
    }

    private static void ship() {
        term("BODIES: SHIP: 10 sails: x + n.");
        for (int x : XS) {
            says(0, SAILS, x, x + N, 10);
        }
    }

    private static void shipSteers() {
        term("11 steers: sails(x) * 2.");
        for (int x : XS) {
            says(0, STEERS, x, (x + N) * 2, 11, 10);
        }
    }

    private static void shipSounds() {
        term("12 sounds: x - m.");
        for (int x : XS) {
            says(0, SOUNDS, x, x - M, 12);
        }
    }

    private static void shipLogs() {
        term("13 logs: steers(x) ^ sounds(x).");
        for (int x : XS) {
            says(0, LOGS, x, (x + N) * 2 ^ x - M, 13, 11, 10, 12);
        }
    }

    private static void collier() {
        term("COLLIER: 20 sails: super.sails(x) * 3.");
        for (int x : XS) {
            int sails = (x + N) * 3;
            says(1, SAILS, x, sails, 20, 10);
            says(1, STEERS, x, sails * 2, 11, 20, 10);
            says(1, SOUNDS, x, x - M, 12);
            says(1, LOGS, x, sails * 2 ^ x - M, 13, 11, 20, 10, 12);
        }
    }

    private static void rower() {
        term("ROWER: 30 steers: super.steers(x) - sounds(1).");
        for (int x : XS) {
            int steers = (x + N) * 2 - (1 - M);
            says(2, SAILS, x, x + N, 10);
            says(2, STEERS, x, steers, 30, 11, 10, 12);
            says(2, LOGS, x, steers ^ x - M, 13, 30, 11, 10, 12, 12);
        }
    }

    private static void steamer() {
        term("STEAMER: 40 sounds: -super.sounds(x).");
        for (int x : XS) {
            int sounds = -(x - M);
            says(3, SOUNDS, x, sounds, 40, 12);
            says(3, STEERS, x, (x + N) * 2, 11, 10);
            says(3, LOGS, x, (x + N) * 2 ^ sounds, 13, 11, 10, 40, 12);
        }
        says(3, SOUNDS, LEAST + M, LEAST, 40, 12);
    }

    private static void cutter() {
        term("CUTTER: 50 logs: super.logs(x) - sails(2).");
        for (int x : XS) {
            int sails = (x + N) * 3;
            says(4, SAILS, x, sails, 20, 10);
            says(4, LOGS, x, (sails * 2 ^ x - M) - (2 + N) * 3, 50, 13, 11, 20, 10, 12, 20, 10);
        }
    }

    private static void smuggler() {
        term("SMUGGLER: 60 steers: super.steers(x + 1).");
        for (int x : XS) {
            int steers = (x + 1 + N) * 2 - (1 - M);
            says(5, STEERS, x, steers, 60, 30, 11, 10, 12);
            says(5, LOGS, x, steers ^ x - M, 13, 60, 30, 11, 10, 12, 12);
        }
    }

    private static void ghost() {
        term("GHOST: 70 sounds: super.sounds(x) ^ n.");
        for (int x : XS) {
            says(6, SOUNDS, x, -(x - M) ^ N, 70, 40, 12);
            says(6, STEERS, x, (x + N) * 2, 11, 10);
        }
    }

    private static void ghostLogs() {
        term("71 logs: steers(x) - super.logs(x).");
        for (int x : XS) {
            int steers = (x + N) * 2;
            says(6, LOGS, x, steers - (steers ^ (-(x - M) ^ N)), 71, 11, 10, 13, 11, 10, 70, 40, 12);
        }
    }

    private static void whichBody() {
        term("sails(..) is the BODY of its KIND, or of the next KIND above that has one; super.sails(..) that from the KIND above"
            + " the BODY's on.");
        int[][] first = {{10, 11, 12, 13}, {20, 11, 12, 13}, {10, 30, 12, 13}, {10, 11, 40, 13}, {20, 11, 12, 50}, {10, 60, 12, 13},
            {10, 11, 70, 71}};
        for (int kind = 0; kind < 7; kind++) {
            OldLight x = spoken(kind);
            for (int act = 0; act < 4; act++) {
                x.voice(N, act, 3);
                due("KIND " + kind + ", the BODY of VOICE " + act, x.trace(0), first[kind][act]);
            }
        }
    }

    private static void theTrace() {
        term("THE TRACE: the numbers of BODIES of the latest voice(), as they began (what stands left is worked out first), the"
            + " first 40.");
        OldLight x = spoken(6);
        due("at first none", x.count(10), 0);
        int longest = 0;
        for (int kind = 0; kind < 7; kind++) {
            x.become(N, 10 * kind);
            for (int act = 0; act < 4; act++) {
                x.voice(N, act, 0);
                longest = Math.max(longest, x.count(10));
                due("no more than are told", x.trace(x.count(10)), NONE);
            }
        }
        due("the longest", longest, 9);
        row("the longest", x::trace, 71, 11, 10, 13, 11, 10, 70, 40, 12, NONE);
        x.voice(0, SAILS, 0);
        row("the latest alone", x::trace, 10, NONE, NONE, NONE, NONE, NONE, NONE, NONE, NONE, NONE);
        x.voice(0, LOGS, 0);
        x.voice(7, LOGS, 0);
        x.voice(0, 4, 0);
        row("one that is refused is none", x::trace, 13, 11, 10, 12, NONE);
    }

    // ---- Promise 29

    private static void voice() {
        of(29, "A VOICE of a SHIP: any number.");
        OldLight x = new OldLight();
        x.ship(0, 0, 0);
        int[] numbers = {LEAST, GREATEST, 0, LOW, BEYOND, NONE, STATE, FULL, KIND};
        for (int v : numbers) {
            due("sails " + v, x.voice(0, 0, v), v);
            due("sounds " + v, x.voice(0, 2, v), v);
        }
        row("none was an ERROR: told", k -> x.told(k + 1), 0, 0, 0, 0, 0);
        x.change(0, 2, 1);
        due("of one that is LOST", x.voice(0, 1, 4), 8);
        x.become(0, 15);
        due("of one that became a COLLIER", x.voice(0, 0, 4), 12);
    }

    private static void voiceBeyond() {
        of(29, "BEYOND.");
        refused(Made::fresh, "voice(0, 0, 0) without SHIPS", x -> x.voice(0, 0, 0), BEYOND);
        for (int ship : outside(0, 2)) {
            refused(Made::laden, "voice(" + ship + ", 3, 1)", x -> x.voice(ship, 3, 1), BEYOND);
        }
        for (int act : outside(0, 3)) {
            refused(Made::laden, "voice(1, " + act + ", 1)", x -> x.voice(1, act, 1), BEYOND);
        }
        taken(Made::laden, "voice(2, 3, least)", x -> x.voice(2, 3, LEAST));
        taken(Made::sevenShips, "voice(6, 0, greatest)", x -> x.voice(6, 0, GREATEST));
        refused(Made::sevenShips, "voice(7, 0, 0)", x -> x.voice(7, 0, 0), BEYOND);
    }

    // ---- Promise 30

    private static void trace() {
        of(30, "THE TRACE's i-th.");
        OldLight x = spoken(4);
        x.voice(N, LOGS, 5);
        row("from 0 on", x::trace, 50, 13, 11, 20, 10, 12, 20, 10);
        row("asked again", x::trace, 50, 13, 11, 20, 10, 12, 20, 10);
    }

    private static void traceNone() {
        of(30, "NONE: there is none such.");
        for (int i : new int[] {LEAST, -1, 0, 1, 39, 40, GREATEST}) {
            refused(Made::fresh, "trace(" + i + ") of none", x -> x.trace(i), NONE);
        }
        for (int i : outside(0, 8)) {
            refused(Made::laden, "trace(" + i + ") of nine", x -> x.trace(i), NONE);
        }
        due("the last of nine", Made.laden().trace(8), 12);
    }
}
