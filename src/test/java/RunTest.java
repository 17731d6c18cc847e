import java.lang.reflect.Method;
import java.util.ArrayDeque;
import java.util.Arrays;
import java.util.Deque;
import java.util.Map;
import java.util.Random;
import java.util.TreeMap;

/**
 * All promises, by runs of 512 calls on one object: what each call answers, ERRORS among the others, is held
 * against the document told again. What one promise leaves, the others show.
 */
public final class RunTest {
    private static final int CALLS = 512;
    private static final int RUNS = 500;
    private static final Map<String, Method> FACE = new TreeMap<>();
    private static final Map<String, Method> AGAIN = new TreeMap<>();
    /** Acts by name, each as often as it is to be met. */
    private static final String[] ACTS = ("bay lay lay lay ofCell ofCell set set set ship ship ofShip ofShip change change become"
        + " as feed text law law hours hours loose depth then then lost lost setting setting leastFalse which which struck"
        + " struck dark dark deep deep draws draws traffic traffic odds odds seed voice voice trace sheet put put move move"
        + " beds judge image restore tell tell check count count told").split(" ");

    /** A call that is to come, with the numbers it is made with. */
    private static final class Call {
        final String act;
        final Object[] numbers;

        Call(String act, Object... numbers) {
            this.act = act;
            this.numbers = numbers;
        }

        @Override
        public String toString() {
            return act + Arrays.toString(numbers).replace('[', '(').replace(']', ')');
        }
    }

    private final Random random;
    private final OldLight light = new OldLight();
    private final Again again = new Again();
    private final Deque<Call> plan = new ArrayDeque<>();
    private final String name;
    private int calls = 0;
    private int cells = 8;
    private int ships = 0;

    private RunTest(int run) {
        random = new Random(run);
        name = "run " + run + ", call ";
    }

    public static void main(String[] args) throws ReflectiveOperationException {
        for (Method act : OldLight.class.getDeclaredMethods()) {
            if (java.lang.reflect.Modifier.isPublic(act.getModifiers())) {
                FACE.put(act.getName(), act);
                AGAIN.put(act.getName(), Again.class.getDeclaredMethod(act.getName(), act.getParameterTypes()));
            }
        }
        int runs = args.length > 0 ? Integer.parseInt(args[0]) : RUNS;
        for (int run = 0; run < runs; run++) {
            new RunTest(run).go();
        }
        allWereAnswered();
        Expect.end();
    }

    /** How often an act has answered, and how often each ERROR (or a FAULT: 0). */
    private static final Map<String, Integer> MET = new TreeMap<>();

    private static void allWereAnswered() {
        String[] refusals = ("bay 1,bay 3,lay 1,ofCell 1,set 1,ship 1,ship 4,ofShip 1,change 1,become 1,as 1,as 5,feed 1,feed 4,"
            + "text 1,law 1,hours 1,hours 3,loose 1,loose 3,depth 1,then 1,lost 1,lost 2,setting 1,setting 2,leastFalse 1,"
            + "which 1,which 2,struck 1,dark 1,dark 2,deep 1,deep 2,draws 1,draws 2,draws 3,traffic 1,odds 1,voice 1,trace 2,"
            + "sheet 1,sheet 3,put 1,put 2,move 1,move 2,move 5,beds 1,beds 2,judge 1,judge 2,restore 2,tell 4,count 1,told 1")
            .split(",");
        for (String refusal : refusals) {
            Expect.holds("ERRORS were met: " + refusal, MET.getOrDefault(refusal, 0) > 0);
        }
        for (String act : ACTS) {
            Expect.holds("answers were met: " + act, MET.getOrDefault(act, 0) > 20);
        }
        Expect.holds("FAULTS were met", MET.getOrDefault("text 0", 0) > 20);
    }

    private void go() throws ReflectiveOperationException {
        if (random.nextInt(10) > 0) {
            begin();
        }
        boolean alike = true;
        while (alike && calls < CALLS - 130) {
            alike = answersAlike(next());
        }
        plan.clear();
        askAll();
        while (alike && !plan.isEmpty() && calls < CALLS) {
            alike = answersAlike(plan.remove());
        }
    }

    private boolean answersAlike(Call call) throws ReflectiveOperationException {
        calls++;
        int got = (int) FACE.get(call.act).invoke(light, call.numbers);
        int want = (int) AGAIN.get(call.act).invoke(again, call.numbers);
        boolean anyNumber = call.act.equals("seed");
        boolean error = !anyNumber && want < -1000000000 && want >= Expect.KIND;
        boolean fault = call.act.equals("text") && want < 0;
        MET.merge(error ? call.act + " " + (-1000000000 - want) : fault ? call.act + " 0" : call.act, 1, Integer::sum);
        Expect.due(name + calls + ": " + call, got, want);
        return got == want;
    }

    // ---- which calls

    private Call next() {
        cells = again.count(0);
        ships = again.count(1);
        if (!plan.isEmpty() && random.nextInt(5) > 0) {
            return plan.remove();
        }
        if (plan.isEmpty()) {
            think();
        }
        String act = ACTS[random.nextInt(ACTS.length)];
        Object[] numbers = new Object[FACE.get(act).getParameterCount()];
        for (int i = 0; i < numbers.length; i++) {
            int number = random.nextInt(12) == 0 ? wild() : number(act, i);
            numbers[i] = act.equals("feed") && i == 0 ? (Object) word() : (Object) number;
        }
        return new Call(act, numbers);
    }

    /** Now and then a row of calls that belong together is planned. */
    private void think() {
        int what = random.nextInt(60);
        if (what < 4) {
            planText(random.nextInt(2));
        } else if (what < 6) {
            planShown();
        } else if (what < 8) {
            planJudged();
        } else if (what < 11) {
            planCheck();
        } else if (what < 12) {
            planLateHours();
        } else if (what < 14) {
            plan.add(new Call("image"));
        } else if (what < 16) {
            plan.add(new Call("restore"));
        } else if (what < 17) {
            planFull();
        } else if (what < 19) {
            planBeds();
        }
    }

    private void begin() {
        cells = 3 + random.nextInt(6);
        plan.add(new Call("bay", cells));
        plan.add(new Call("set", 0, 100 + random.nextInt(200)));
        plan.add(new Call("set", 1, random.nextInt(40)));
        plan.add(new Call("set", 2, random.nextInt(1 << cells)));
        for (int i = random.nextInt(8); i > 0; i--) {
            plan.add(new Call("lay", random.nextInt(cells), 0, random.nextInt(10)));
        }
        planText(0);
        for (int i = random.nextInt(8); i > 0; i--) {
            plan.add(new Call("ship", random.nextInt(70), random.nextInt(8), random.nextInt(cells)));
        }
        planText(1);
    }

    private static final String[] DEPTH_TEXTS = {"b", "b+(y+c)%4", "(y*7+c*5)%11", "b-(y/3+c)%3", "b*(y<190)+3*(y>189)",
        "b+y%2-(c>3)*(y%3)", "2+4*(y<191)", "y%7+c", "19-y%20", "b+9*(y%5=c)", "(y<180)*6+b/2", "9", "b-c"};
    private static final String[] ELSE_TEXTS = {"0", "1", "(h+m)%3=0", "d>m|h%5=2", "h%2", "h>9999", "!(h%3)", "d-4", "m>4&d>2"};

    private void planText(int use) {
        String text;
        if (random.nextInt(3) == 0) {
            text = random.nextInt(3) == 0 ? opened(use) : written(use, 3);
            int odd = random.nextInt(3 * text.length());
            if (odd < text.length()) {
                text = text.substring(0, odd) + "bd1()!+<&".charAt(random.nextInt(9)) + text.substring(odd + 1);
            }
        } else {
            String[] some = use == 0 ? DEPTH_TEXTS : ELSE_TEXTS;
            text = some[random.nextInt(some.length)];
        }
        text = text.substring(0, Math.min(50, text.length()));
        for (int from = 0; from < text.length(); from += 8) {
            int n = Math.min(8, text.length() - from);
            long word = random.nextLong();
            for (int i = n - 1; i >= 0; i--) {
                word = word << 8 | text.charAt(from + i);
            }
            plan.add(new Call("feed", word, n));
        }
        plan.add(new Call("text", use));
    }

    private String written(int use, int deep) {
        int what = deep == 0 ? random.nextInt(2) : random.nextInt(8);
        switch (what) {
            case 0: return "" + random.nextInt(random.nextInt(4) == 0 ? 10000 : 12);
            case 1: return "" + (use == 0 ? "cyb" : "dmh").charAt(random.nextInt(3));
            case 2: return "!" + written(use, 0);
            case 3: return "(" + written(use, deep - 1) + ")";
            default: return written(use, deep - 1) + "|&<=>+-*/%".charAt(random.nextInt(10)) + written(use, deep - 1);
        }
    }

    /** About as many of ! and ( as may be open at once. */
    private String opened(int use) {
        StringBuilder text = new StringBuilder(random.nextBoolean() ? "" : written(use, 0) + "+");
        StringBuilder end = new StringBuilder();
        for (int i = 4 + random.nextInt(3); i > 0; i--) {
            boolean not = random.nextInt(3) == 0;
            text.append(not ? "!" : random.nextBoolean() ? "(" : "(" + written(use, 0) + "-");
            end.append(not ? "" : ")");
        }
        return text + written(use, 0) + end + (random.nextBoolean() ? "" : "*!" + written(use, 0));
    }

    /** A SHEET comes to tell what a lens shows, nearly. */
    private void planShown() {
        int sheet = random.nextInt(4);
        plan.add(new Call("sheet", sheet, 8 << random.nextInt(3), cells + (random.nextInt(8) == 0 ? 1 : 0)));
        plan.add(new Call("set", 1, random.nextInt(100)));
        for (int cell = 0; cell < cells; cell++) {
            int shown = again.ofCell(cell, 4);
            plan.add(new Call("put", sheet, cell, random.nextInt(3) == 0 ? shown : random.nextInt(2) == 0 ? -1 : random.nextInt(9)));
        }
        plan.add(new Call("which", sheet, 0));
        plan.add(new Call("which", sheet, 1));
    }

    /** A SHEET comes to tell where SHIPS are AT, nearly. */
    private void planJudged() {
        int sheet = random.nextInt(4);
        plan.add(new Call("sheet", sheet, 8 << random.nextInt(3), ships + (random.nextInt(6) == 0 ? 1 : 0)));
        for (int ship = 0; ship < ships; ship++) {
            plan.add(new Call("put", sheet, ship, again.ofShip(ship, 3) + higher()));
            plan.add(new Call("judge", sheet));
        }
    }

    /** Mostly 0; else bits above those that numbers of 8, or of 16, bits have. */
    private int higher() {
        int[] some = {1 << 7, 1 << 8, 1 << 15, 1 << 16, -1 << 8, -1 << 16};
        return random.nextInt(6) == 0 ? some[random.nextInt(some.length)] : 0;
    }

    private void planBeds() {
        int sheet = random.nextInt(4);
        int n = random.nextInt(10);
        plan.add(new Call("sheet", sheet, 8 << random.nextInt(3), n));
        for (int i = 0; i < n; i++) {
            int bed = random.nextInt(14) == 0 ? 10 - 11 * random.nextInt(2) : random.nextInt(10);
            plan.add(new Call("put", sheet, i, bed + higher()));
        }
        plan.add(new Call("beds", sheet));
    }

    /** Numbers come to wait that are how many SHIPS will be AT 0, nearly. */
    private void planCheck() {
        plan.add(new Call("check"));
        int many = random.nextInt(21);
        for (int i = 1; i <= many; i++) {
            int in = 0;
            for (int ship = 0; ship < ships; ship++) {
                in += again.then(i, ship, 0) == 0 ? 1 : 0;
            }
            plan.add(new Call("tell", random.nextInt(30) == 0 ? in + 1 : in));
        }
        plan.add(new Call("check"));
    }

    /** HOURS go on till close to the last one. */
    private void planLateHours() {
        int left = 9999 - again.count(2);
        if (left > 60 && (random.nextInt(3) > 0 || calls > 200)) {
            return;
        }
        for (; left >= 60; left -= 60) {
            plan.add(new Call("hours", 60));
        }
        plan.add(new Call("image"));
        for (int over = 1; over >= 0; over--) {
            plan.add(new Call("hours", left + over));
            plan.add(new Call("restore"));
            plan.add(new Call("loose", Math.min(left, 40) + over));
            plan.add(new Call("restore"));
        }
    }

    private void planFull() {
        int what = random.nextInt(3);
        for (int i = 0; i < (what == 0 ? 7 : what == 1 ? 8 : 21); i++) {
            plan.add(what == 0 ? new Call("feed", word(), 8)
                : what == 1 ? new Call("ship", random.nextInt(70), random.nextInt(10), random.nextInt(cells))
                : new Call("tell", random.nextInt(8)));
        }
    }

    private void askAll() {
        for (int what = 0; what < 12; what++) {
            plan.add(new Call("count", what));
        }
        for (int cell = 0; cell < again.count(0); cell++) {
            for (int what = 0; what < 6; what++) {
                plan.add(new Call("ofCell", cell, what));
            }
        }
        for (int ship = 0; ship < again.count(1); ship++) {
            for (int what = 0; what < 6; what++) {
                plan.add(new Call("ofShip", ship, what));
            }
        }
        for (int k = 1; k <= 5; k++) {
            plan.addFirst(new Call("told", k));
        }
    }

    // ---- which numbers

    private long word() {
        long word = random.nextLong();
        for (int i = 0; i < 8; i++) {
            word = word << 8 | "bcydmh0123!()+-*/%<=>&|".charAt(random.nextInt(23));
        }
        return word;
    }

    private int wild() {
        int[] some = {-1, -2, 10, 256, 65536, Integer.MIN_VALUE, Integer.MAX_VALUE, -1000000001, 1 << 30, random.nextInt()};
        return some[random.nextInt(some.length)];
    }

    /** A number that an act's i-th may be, or may just not be. */
    private int number(String act, int i) {
        int edge = random.nextInt(20) == 0 ? 1 : 0;
        int cell = random.nextInt(cells + edge);
        int ship = random.nextInt(Math.max(1, ships + edge));
        switch (act) {
            case "bay": return 3 + random.nextInt(6 + edge);
            case "lay": return i == 0 ? cell : i == 1 ? random.nextInt(3 + edge) : laid();
            case "ofCell": return i == 0 ? cell : random.nextInt(6 + edge);
            case "set": return i == 0 ? random.nextInt(3 + edge) : random.nextInt(edge == 1 ? 1001 : 101);
            case "ship": return i == 0 ? random.nextInt(70 + edge) : i == 1 ? random.nextInt(10 + edge) : cell;
            case "ofShip": return i == 0 ? ship : random.nextInt(6 + edge);
            case "change": return i == 0 ? ship : i == 1 ? random.nextInt(3 + edge) : random.nextInt(2 + random.nextInt(9));
            case "become": return i == 0 ? ship : random.nextInt(70 + edge);
            case "as": return i == 0 ? ship : random.nextInt(7 + edge);
            case "feed": return 1 + random.nextInt(8 + edge);
            case "text": return random.nextInt(2 + edge);
            case "law": return i == 0 ? random.nextInt(2 + edge) : random.nextInt(30) - 5;
            case "hours": return 1 + random.nextInt(random.nextInt(8) > 0 ? 4 : 60 + edge);
            case "loose": return 1 + random.nextInt(random.nextInt(8) > 0 ? 3 : 40 + edge);
            case "depth": return i == 0 ? cell : random.nextInt(1100 + edge) - 100;
            case "then": return i == 0 ? random.nextInt(61 + edge) : i == 1 ? ship : random.nextInt(2 + edge);
            case "setting": return i == 0 ? random.nextInt((1 << random.nextInt(ships + 1)) + edge) : random.nextInt(21 + edge);
            case "which": return i == 0 ? random.nextInt(4 + edge) : random.nextInt(2 + edge);
            case "lost": case "leastFalse": return random.nextInt(2 + edge);
            case "struck": return cell;
            case "dark": return random.nextInt(21 + edge);
            case "deep": return i == 0 ? cell : random.nextInt(20 + edge);
            case "draws": return ship;
            case "traffic": return i == 0 ? random.nextInt(61 + edge) : random.nextInt(2 + edge);
            case "odds": return i == 0 ? ship : i == 1 ? random.nextInt(61 + edge) : random.nextInt(2 + edge);
            case "voice": return i == 0 ? ship : i == 1 ? random.nextInt(4 + edge) : random.nextInt(20) - 5;
            case "trace": return random.nextInt(10 + edge);
            case "sheet": return i == 0 ? random.nextInt(4 + edge) : i == 1 ? 8 * random.nextInt(5) : random.nextInt(42) - edge;
            case "put": return i == 0 ? random.nextInt(4 + edge) : i == 1 ? random.nextInt(12) : laid();
            case "move": return i % 2 == 0 && i < 4 ? random.nextInt(4 + edge) : random.nextInt(6) - edge;
            case "beds": case "judge": return random.nextInt(4 + edge);
            case "tell": return random.nextInt(8);
            case "count": return random.nextInt(12 + edge);
            case "told": return 1 + random.nextInt(5 + edge) - edge;
            default: return random.nextInt();
        }
    }

    private int laid() {
        return random.nextInt(2) == 0 ? random.nextInt(10) : random.nextInt(3) > 0 ? 100 + random.nextInt(200) : random.nextInt(1001);
    }
}
