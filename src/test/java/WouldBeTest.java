/** Promises 17 to 27: then, lost, setting, leastFalse, which, struck, dark, deep, draws, traffic, odds. */
public final class WouldBeTest {
    public static void main(String[] args) {
        promise17Then();
        promise18Lost();
        promise18LostNow();
        promise19Setting();
        promise20LeastFalse();
        promise21Which();
        promise21Errors();
        promise22Struck();
        promise23Dark();
        promise23LeastSet();
        promise23AllCells();
        promise24Deep();
        promise25Draws();
        promise26Traffic();
        promise27Odds();
        nothingIsDone();
        Expect.end();
    }

    /** TRUE is 2 everywhere; 10 YEARS ago and earlier it was 6; all CELLS are in BEAM, the lens is 10 back. */
    private static OldLight silted() {
        OldLight x = new OldLight();
        Expect.law(x, 0, "2+4*(y<191)");
        x.set(1, 10);
        x.set(2, 255);
        return x;
    }

    private static void promise17Then() {
        OldLight x = silted();
        x.ship(0, 4, 5);
        x.ship(20, 2, 3);
        x.ship(20, 3, 3);
        int[][] due = {{0, 0, 0, 5}, {0, 0, 1, 0}, {1, 0, 0, 4}, {1, 0, 1, 1}, {60, 0, 0, 4}, {2, 1, 0, 1}, {60, 1, 0, 0},
            {60, 1, 1, 0}, {60, 2, 0, 3},
            {-1, 0, 0, Expect.BEYOND}, {61, 0, 0, Expect.BEYOND}, {0, -1, 0, Expect.BEYOND}, {0, 3, 0, Expect.BEYOND},
            {0, 0, -1, Expect.BEYOND}, {0, 0, 2, Expect.BEYOND}};
        for (int[] a : due) {
            Expect.due("then(" + a[0] + ", " + a[1] + ", " + a[2] + ")", x.then(a[0], a[1], a[2]), a[3]);
        }
        x.change(0, 2, 1);
        Expect.due("LOST now", x.then(0, 0, 1), 1);
    }

    private static void promise18Lost() {
        OldLight x = silted();
        Expect.due("without SHIPS", x.lost(0), Expect.NONE);
        Expect.due("lost(-1)", x.lost(-1), Expect.BEYOND);
        Expect.due("lost(2)", x.lost(2), Expect.BEYOND);
        x.ship(20, 1, 7);
        x.ship(0, 2, 7);
        Expect.due("none strikes", x.lost(1), Expect.NONE);
        x.set(2, 0x5);
        x.ship(0, 4, 3);
        x.change(2, 0, 4);
        x.ship(0, 3, 1);
        x.ship(0, 3, 3);
        Expect.due("lost(0)", x.lost(0), 1);
        Expect.due("lost(1): the least of three", x.lost(1), 2);
        x.change(2, 1, 4);
        Expect.due("lost(1): the least of two", x.lost(1), 3);
        x.change(3, 1, 0);
        x.change(4, 1, 0);
        Expect.due("it can't come to a lit CELL", x.lost(0), Expect.NONE);
        Expect.law(x, 1, "h=59");
        x.change(2, 1, 2);
        Expect.due("it waits, goes out", x.lost(0), Expect.NONE);
        Expect.law(x, 1, "h=58");
        Expect.due("and strikes in the 60th HOUR", x.lost(0), 60);
        Expect.due("that is the one", x.lost(1), 2);
    }

    private static void promise18LostNow() {
        OldLight x = silted();
        x.ship(0, 4, 3);
        x.ship(0, 4, 3);
        x.change(0, 2, 1);
        Expect.due("one is LOST, another will be", x.lost(0), 1);
        Expect.due("who is LOST first", x.lost(1), 1);
        x.change(1, 2, 1);
        Expect.due("all are LOST", x.lost(0), Expect.NONE);
    }

    private static void promise19Setting() {
        OldLight x = silted();
        x.ship(0, 4, 1);
        x.ship(0, 2, 5);
        x.ship(0, 7, 0);
        x.ship(0, 6, 2);
        int[][] due = {{0, 0, 0}, {1, 0, Expect.NONE}, {1, 1, 10}, {2, 4, Expect.NONE}, {2, 5, 0}, {3, 5, 10}, {4, 0, 0},
            {8, 20, Expect.NONE}, {7, 20, 10}, {15, 20, Expect.NONE},
            {-1, 0, Expect.BEYOND}, {16, 0, Expect.BEYOND}, {0, -1, Expect.BEYOND}, {0, 21, Expect.BEYOND}};
        for (int[] a : due) {
            Expect.due("setting(" + a[0] + ", " + a[1] + ")", x.setting(a[0], a[1]), a[2]);
        }
        Expect.law(x, 0, "2+7*(y=101)");
        x.change(1, 0, 3);
        x.change(1, 1, 1);
        Expect.due("only the farthest back", x.setting(2, 1), 99);
        Expect.law(x, 0, "2+7*(y=100)");
        Expect.due("and none farther", x.setting(2, 1), Expect.NONE);
        x.become(1, 60);
        Expect.law(x, 0, "3-2*(y>180)*(c=0)");
        x.change(1, 0, 1);
        Expect.due("a GHOST", x.setting(2, 1), 0);
    }

    private static void promise20LeastFalse() {
        OldLight x = new OldLight();
        x.bay(4);
        Expect.due("as it was: leastFalse(0)", x.leastFalse(0), 1);
        Expect.due("as it was: leastFalse(1)", x.leastFalse(1), 0);
        Expect.law(x, 0, "9-(y>193)*(y<200)-(y=193&c=2)-(y<190)");
        Expect.due("leastFalse(0)", x.leastFalse(0), 8);
        Expect.due("leastFalse(1)", x.leastFalse(1), 0);
        Expect.law(x, 0, "c+(y<200)*(c<2)-(y=150)*(c=1)");
        Expect.due("as if BEAM had them all: leastFalse(0)", x.leastFalse(0), 50);
        Expect.due("as if BEAM had them all: leastFalse(1)", x.leastFalse(1), 1);
        Expect.law(x, 0, "y=200");
        Expect.due("of several the least", x.leastFalse(0), 1);
        Expect.due("all false", x.leastFalse(1), 4);
        Expect.law(x, 0, "(y=200)|(y=101)");
        Expect.due("the farthest back", x.leastFalse(0), 99);
        Expect.law(x, 0, "(y=200)|(y=100)");
        Expect.due("and no farther", x.leastFalse(0), 1);
        OldLight y = new OldLight();
        Expect.law(y, 0, "y=200");
        Expect.due("all eight false: leastFalse(0)", y.leastFalse(0), 1);
        Expect.due("all eight false: leastFalse(1)", y.leastFalse(1), 8);
        Expect.due("leastFalse(-1)", x.leastFalse(-1), Expect.BEYOND);
        Expect.due("leastFalse(2)", x.leastFalse(2), Expect.BEYOND);
    }

    private static void promise21Which() {
        OldLight x = new OldLight();
        x.bay(3);
        Expect.law(x, 0, "(200-y)/10+c");
        x.sheet(0, 16, 3);
        x.set(2, 2);
        x.put(0, 1, 5);
        x.put(0, 2, 2);
        Expect.due("which(0, 0)", x.which(0, 0), 10);
        Expect.due("which(0, 1)", x.which(0, 1), 40);
        x.put(0, 2, 3);
        Expect.due("a CELL out of BEAM is SHOWN as it is", x.which(0, 0), 0);
        Expect.due("there is none", x.which(0, 1), Expect.NONE);
        x.put(0, 2, -7);
        Expect.due("not told", x.which(0, 1), 40);
        x.put(0, 1, -1);
        Expect.due("all but one not told", x.which(0, 0), 100);
        Expect.due("the least is 0", x.which(0, 1), 0);
        x.put(0, 1, 10);
        Expect.due("up to 99", x.which(0, 0), 10);
        Expect.due("from 90 on", x.which(0, 1), 90);
        Expect.due("BACK doesn't matter", x.set(1, 99), 0);
        Expect.due("from 90 on", x.which(0, 1), 90);
    }

    private static void promise21Errors() {
        OldLight x = new OldLight();
        x.bay(3);
        x.sheet(1, 8, 2);
        x.sheet(2, 8, 4);
        int[][] due = {{-1, 0, Expect.BEYOND}, {4, 0, Expect.BEYOND}, {0, -1, Expect.BEYOND}, {0, 2, Expect.BEYOND},
            {0, 0, Expect.NONE}, {1, 0, Expect.NONE}, {2, 0, Expect.NONE}, {2, 1, Expect.NONE}};
        for (int[] a : due) {
            Expect.due("which(" + a[0] + ", " + a[1] + ")", x.which(a[0], a[1]), a[2]);
        }
    }

    private static void promise22Struck() {
        OldLight x = silted();
        x.set(2, 0x4);
        Expect.due("without SHIPS", x.struck(2), 0);
        x.ship(0, 3, 3);
        x.ship(0, 2, 3);
        x.ship(0, 3, 5);
        x.ship(0, 2, 2);
        x.change(3, 2, 1);
        x.ship(0, 6, 3);
        Expect.due("struck(2), one now", x.struck(2), 1 + 8 + 16);
        Expect.due("struck(5): it waits", x.struck(5), 0);
        Expect.due("struck(0): not LOST", x.struck(0), 0);
        Expect.due("struck(-1)", x.struck(-1), Expect.BEYOND);
        Expect.due("struck(8)", x.struck(8), Expect.BEYOND);
        Expect.law(x, 1, "h=58");
        x.change(0, 1, 2);
        Expect.due("in the 60th HOUR", x.struck(2), 1 + 8 + 16);
        Expect.law(x, 1, "h=59");
        Expect.due("not in the 61st", x.struck(2), 8 + 16);
    }

    private static void promise23Dark() {
        OldLight x = silted();
        Expect.due("without SHIPS", x.dark(20), 0);
        Expect.due("dark(-1)", x.dark(-1), Expect.BEYOND);
        Expect.due("dark(21)", x.dark(21), Expect.BEYOND);
        x.ship(0, 3, 6);
        x.ship(0, 3, 3);
        Expect.due("dark(0)", x.dark(0), 0);
        Expect.due("dark(1)", x.dark(1), 0x24);
        x.set(2, 0xDB);
        Expect.due("nothing to be put out", x.dark(20), 0);
        x.set(2, 0x22);
        Expect.due("dark(20)", x.dark(20), 0x20);
        x.change(0, 2, 1);
        Expect.due("one that is LOST now doesn't count", x.dark(20), 0);
        x.change(0, 2, 0);
        x.become(0, 41);
        Expect.due("a CUTTER sees less", x.dark(1), 0x20);
        x.become(0, 42);
        x.set(2, 0);
        Expect.due("a CUTTER strikes in the dark", x.dark(1), Expect.NONE);
        Expect.due("not in 0 HOURS", x.dark(0), 0);
    }

    /** Either of two CELLS out of BEAM would do: the fewest, of several sets the least. */
    private static void promise23LeastSet() {
        OldLight x = new OldLight();
        Expect.law(x, 0, "b*(y>199)+6*(y<200)");
        x.set(1, 10);
        x.set(2, 255);
        x.lay(1, 0, 2);
        x.lay(2, 0, 2);
        x.lay(3, 0, 4);
        x.ship(0, 4, 5);
        Expect.due("one CELL", x.dark(20), 4);
        x.lay(4, 0, 3);
        x.ship(0, 4, 4);
        Expect.due("the first can't come to CELL 4 in 0 HOURS", x.dark(0), 0);
        Expect.due("in one HOUR", x.dark(1), 16);
        Expect.due("in two", x.dark(2), 4 + 16);
        x.lay(2, 0, 4);
        Expect.due("in two", x.dark(2), 16);
        Expect.due("in three", x.dark(3), 2 + 16);
        OldLight y = new OldLight();
        Expect.law(y, 0, "b*(y>199)+6*(y<200)");
        y.set(1, 10);
        y.set(2, 0x1E);
        y.lay(1, 0, 2);
        y.lay(2, 0, 3);
        y.lay(3, 0, 3);
        y.ship(0, 3, 5);
        Expect.due("CELL 1 alone is false", y.dark(20), 2);
        y.lay(3, 0, 2);
        y.lay(1, 0, 3);
        Expect.due("CELL 3 alone is false", y.dark(20), 8);
    }

    private static void promise23AllCells() {
        OldLight x = silted();
        for (int cell = 1; cell < 8; cell++) {
            x.ship(0, 3, cell);
        }
        Expect.due("seven CELLS", x.dark(1), 0x7F);
    }

    private static void promise24Deep() {
        OldLight x = new OldLight();
        x.bay(4);
        Expect.law(x, 0, "(200-y)/10+c");
        x.lay(1, 1, 150);
        x.lay(1, 2, 160);
        int[][] due = {{0, 0, 0}, {0, 1, 10}, {0, 9, 90}, {0, 10, Expect.NONE}, {3, 12, 90}, {3, 13, Expect.NONE},
            {1, 5, 51}, {1, 4, 30}, {1, 19, Expect.NONE},
            {-1, 0, Expect.BEYOND}, {4, 0, Expect.BEYOND}, {0, -1, Expect.BEYOND}, {0, 20, Expect.BEYOND}};
        for (int[] a : due) {
            Expect.due("deep(" + a[0] + ", " + a[1] + ")", x.deep(a[0], a[1]), a[2]);
        }
        Expect.law(x, 0, "y=101");
        Expect.due("99 YEARS ago", x.deep(0, 1), 99);
        Expect.law(x, 0, "y=100");
        Expect.due("100 YEARS ago", x.deep(0, 1), Expect.NONE);
        x.set(0, 3);
        Expect.law(x, 0, "y=0");
        Expect.due("3 YEARS ago", x.deep(0, 1), 3);
    }

    private static void promise25Draws() {
        OldLight x = silted();
        x.ship(0, 9, 5);
        x.ship(20, 1, 7);
        x.ship(20, 9, 0);
        Expect.due("draws(-1)", x.draws(-1), Expect.BEYOND);
        Expect.due("draws(3)", x.draws(3), Expect.BEYOND);
        Expect.due("a SHIP would strike", x.draws(0), 2);
        Expect.due("a ROWER", x.draws(1), 2);
        Expect.due("AT 0 with any", x.draws(2), 9);
        x.lay(3, 1, 200);
        x.lay(3, 2, 200);
        Expect.due("over a ROCK", x.draws(1), 0);
        Expect.law(x, 1, "d>1");
        Expect.due("DRAFT is told to the TEXT", x.draws(1), 0);
        x.become(1, 40);
        x.change(1, 1, 4);
        x.set(1, 0);
        Expect.due("with none", x.draws(1), Expect.NONE);
        x.change(1, 2, 1);
        Expect.due("it is LOST", x.draws(1), Expect.STATE);
        Expect.due("DRAFT stays", x.ofShip(0, 2), 9);
        x.change(1, 2, 0);
        x.become(1, 20);
        x.lay(3, 2, 199);
        x.lay(0, 0, 1);
        Expect.law(x, 0, "b");
        Expect.law(x, 1, "(h<56)*(d=1)");
        Expect.due("by BED 0 alone", x.draws(1), 1);
        Expect.law(x, 0, "2+9*(c=7)");
        x.change(1, 1, 7);
        Expect.law(x, 1, "0");
        Expect.due("in 60 HOURS", x.draws(1), 2);
        x.change(1, 1, 1);
        Expect.law(x, 0, "5-5*(y=200)");
        x.set(1, 1);
        x.become(1, 0);
        Expect.due("striking AT 0 is AT 0", x.draws(1), 5);
    }

    private static void promise26Traffic() {
        OldLight x = silted();
        Expect.due("no SHIPS: the CELL", x.traffic(0, 0), 0);
        Expect.due("no SHIPS: how many", x.traffic(60, 1), 0);
        x.ship(20, 2, 3);
        x.ship(20, 2, 3);
        x.ship(20, 2, 4);
        x.ship(0, 5, 6);
        x.ship(0, 5, 6);
        x.ship(0, 5, 6);
        int[][] due = {{0, 0, 6}, {0, 1, 3}, {1, 0, 2}, {1, 1, 2}, {3, 0, 0}, {3, 1, 2}, {4, 1, 3}, {60, 0, 0}, {60, 1, 3},
            {-1, 0, Expect.BEYOND}, {61, 0, Expect.BEYOND}, {0, -1, Expect.BEYOND}, {0, 2, Expect.BEYOND}};
        for (int[] a : due) {
            Expect.due("traffic(" + a[0] + ", " + a[1] + ")", x.traffic(a[0], a[1]), a[2]);
        }
        x.change(5, 2, 1);
        Expect.due("of several the least", x.traffic(0, 0), 3);
        Expect.due("LOST ones left out", x.traffic(0, 1), 2);
    }

    private static void promise27Odds() {
        OldLight x = silted();
        x.ship(0, 4, 1);
        x.ship(0, 2, 3);
        x.ship(0, 7, 3);
        x.ship(0, 6, 0);
        int[][] due = {{0, 1, 0, 1}, {0, 1, 1, 2}, {0, 0, 0, 0}, {0, 0, 1, 1}, {1, 3, 0, 1}, {1, 3, 1, 1}, {1, 2, 0, 0},
            {2, 60, 0, 0}, {2, 60, 1, 1}, {3, 0, 0, 1}, {3, 0, 1, 1},
            {-1, 0, 0, Expect.BEYOND}, {4, 0, 0, Expect.BEYOND}, {0, -1, 0, Expect.BEYOND}, {0, 61, 0, Expect.BEYOND},
            {0, 0, -1, Expect.BEYOND}, {0, 0, 2, Expect.BEYOND}};
        for (int[] a : due) {
            Expect.due("odds(" + a[0] + ", " + a[1] + ", " + a[2] + ")", x.odds(a[0], a[1], a[2]), a[3]);
        }
        int[][] fractions = {{199, 19, 20}, {197, 17, 20}, {196, 4, 5}, {195, 3, 4}, {190, 1, 2}, {188, 2, 5}, {181, 1, 20}};
        for (int[] a : fractions) {
            Expect.law(x, 0, "2+4*(y<" + (a[0] + 1) + ")");
            Expect.due("odds above the line, " + a[0], x.odds(0, 1, 0), a[1]);
            Expect.due("odds below the line, " + a[0], x.odds(0, 1, 1), a[2]);
        }
        Expect.law(x, 0, "2+4*(y=180)");
        Expect.due("20 back isn't likely", x.odds(0, 1, 0), 0);
    }

    private static void nothingIsDone() {
        OldLight x = silted();
        x.ship(0, 4, 3);
        x.ship(20, 2, 5);
        x.sheet(0, 8, 8);
        x.then(9, 0, 0);
        x.lost(0);
        x.setting(3, 20);
        x.leastFalse(1);
        x.which(0, 0);
        x.struck(2);
        x.dark(20);
        x.deep(0, 6);
        x.draws(0);
        x.traffic(60, 1);
        x.odds(1, 60, 0);
        int[] due = {8, 2, 0, 200, 10, 255, 0, 0};
        for (int what = 0; what < due.length; what++) {
            Expect.due("only thought: count(" + what + ")", x.count(what), due[what]);
        }
        Expect.due("only thought: DRAFT", x.ofShip(0, 2), 4);
        Expect.due("only thought: AT", x.ofShip(0, 3), 3);
        Expect.due("only thought: AT", x.ofShip(1, 3), 5);
    }
}
