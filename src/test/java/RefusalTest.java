import java.util.ArrayList;
import java.util.List;
import java.util.Random;

/**
 * All promises, by runs of random calls: no call throws, an act that answers an ERROR changes nothing
 * but what told() tells, and told() tells every one of them.
 */
public final class RefusalTest {
    private static final int ACTS = 40;
    private static final int VOICE = 27;
    private static final int SEED = 26;
    private static final int COUNT = 38;
    private static final int TOLD = 39;
    private static final String SIGNS = "bcydmh0123!()+-*/%<=>&|";

    /** A call, and what it answered. */
    private static final class Call {
        final int act;
        final int[] args;
        final int answer;

        Call(int act, int[] args, int answer) {
            this.act = act;
            this.args = args;
            this.answer = answer;
        }

        boolean isError() {
            boolean anyNumber = act == SEED || act == VOICE || act == COUNT;
            return answer < -1000000000 && answer >= Expect.KIND && !(anyNumber && answer != Expect.BEYOND);
        }

        @Override
        public String toString() {
            return "act " + act + " of " + java.util.Arrays.toString(args);
        }
    }

    private static int call(OldLight x, int act, int[] a) {
        return act < 20 ? firstCalls(x, act, a) : lastCalls(x, act, a);
    }

    private static int firstCalls(OldLight x, int act, int[] a) {
        switch (act) {
            case 0: return x.bay(a[0]);
            case 1: return x.lay(a[0], a[1], a[2]);
            case 2: return x.ofCell(a[0], a[1]);
            case 3: return x.set(a[0], a[1]);
            case 4: return x.ship(a[0], a[1], a[2]);
            case 5: return x.ofShip(a[0], a[1]);
            case 6: return x.change(a[0], a[1], a[2]);
            case 7: return x.become(a[0], a[1]);
            case 8: return x.as(a[0], a[1]);
            case 9: return x.feed(signs(a[0]), a[1]);
            case 10: return x.text(a[0]);
            case 11: return x.law(a[0], a[1], a[2], a[3]);
            case 12: return x.hours(a[0]);
            case 13: return x.loose(a[0]);
            case 14: return x.depth(a[0], a[1]);
            case 15: return x.then(a[0], a[1], a[2]);
            case 16: return x.lost(a[0]);
            case 17: return x.setting(a[0], a[1]);
            case 18: return x.leastFalse(a[0]);
            default: return x.which(a[0], a[1]);
        }
    }

    private static int lastCalls(OldLight x, int act, int[] a) {
        switch (act) {
            case 20: return x.struck(a[0]);
            case 21: return x.dark(a[0]);
            case 22: return x.deep(a[0], a[1]);
            case 23: return x.draws(a[0]);
            case 24: return x.traffic(a[0], a[1]);
            case 25: return x.odds(a[0], a[1], a[2]);
            case 26: return x.seed(a[0]);
            case 27: return x.voice(a[0], a[1], a[2]);
            case 28: return x.trace(a[0]);
            case 29: return x.sheet(a[0], a[1], a[2]);
            case 30: return x.put(a[0], a[1], a[2]);
            case 31: return x.move(a[0], a[1], a[2], a[3], a[4]);
            case 32: return x.beds(a[0]);
            case 33: return x.judge(a[0]);
            case 34: return x.image();
            case 35: return x.restore();
            case 36: return x.tell(a[0]);
            case 37: return x.check();
            case 38: return x.count(a[0]);
            default: return x.told(a[0]);
        }
    }

    /** Eight signs of TEXTS, as a word, that hang on a number. */
    private static long signs(int seed) {
        Random random = new Random(seed);
        long word = 0;
        for (int i = 0; i < 8; i++) {
            word = word << 8 | (random.nextInt(30) == 0 ? random.nextInt(256) : SIGNS.charAt(random.nextInt(SIGNS.length())));
        }
        return word;
    }

    private static int argument(Random random) {
        switch (random.nextInt(16)) {
            case 0: return random.nextInt();
            case 1: return -1 - random.nextInt(3);
            case 2: return Integer.MAX_VALUE;
            case 3: return Integer.MIN_VALUE;
            case 4: return random.nextInt(1000);
            case 5: case 6: return random.nextInt(100);
            case 7: return 8 << random.nextInt(3);
            default: return random.nextInt(8);
        }
    }

    public static void main(String[] args) {
        for (int run = 0; run < 3000; run++) {
            oneRun(new Random(run), run);
        }
        Expect.end();
    }

    private static void oneRun(Random random, int run) {
        OldLight x = new OldLight();
        List<Call> calls = new ArrayList<>();
        int[] errors = new int[6];
        for (int i = 0; i < 400; i++) {
            int[] a = {argument(random), argument(random), argument(random), argument(random), argument(random)};
            int act = random.nextInt(ACTS);
            Call call = new Call(act, a, call(x, act, a));
            calls.add(call);
            if (call.isError()) {
                errors[-1000000000 - call.answer]++;
            }
        }
        for (int k = 1; k <= 5; k++) {
            Expect.due("run " + run + ": told(" + k + ")", x.told(k), errors[k]);
        }
        OldLight y = new OldLight();
        for (Call call : calls) {
            if (!call.isError() && call.act != TOLD) {
                Expect.due("run " + run + ", ERRORS left out: " + call, call(y, call.act, call.args), call.answer);
            }
        }
    }
}
