/** Sentences on SHEETS: of the Terms, and of promises 31 to 35. */
final class SheetSentences extends Sentence {
    static void all() {
        sheets();
        sheet();
        sheetMissing();
        sheetBeyond();
        sheetState();
        put();
        putLowestBits();
        putNoSheet();
        putNone();
        putNoNumber();
        move();
        moveAsTheyWere();
        moveNoSheet();
        moveNone();
        moveKind();
        moveBeyond();
        beds();
        bedsUpTo();
        bedsNoSheet();
        bedsNone();
        judge();
        judgeLengths();
        judgeNoSheet();
        judgeNone();
    }

    /** A row of numbers as BEDS, which shows what stands in it. */
    private static String shown(OldLight x, int sheet) {
        StringBuilder row = new StringBuilder();
        int many = x.beds(sheet);
        for (int cell = 0; cell < many; cell++) {
            row.append(x.ofCell(cell, 0));
        }
        return row.toString();
    }

    // ---- the Terms

    private static void sheets() {
        term("SHEETS 0 .. 3 are rows of 8, 16, 32 bits, at most 40 numbers, or missing (as at first).");
        OldLight x = new OldLight();
        row("missing, put to", sheet -> x.put(sheet, 0, 0), NONE, NONE, NONE, NONE, BEYOND);
        due("below the first", x.put(-1, 0, 0), BEYOND);
        for (int bits : new int[] {8, 16, 32}) {
            for (int sheet = 0; sheet < 4; sheet++) {
                due("of 40", x.sheet(sheet, bits, 40), 1);
                due("number 39", x.put(sheet, 39, 1), 1);
                due("number 40", x.put(sheet, 40, 1), BEYOND);
                due("of 41", x.sheet(sheet, bits, 41), BEYOND);
                due("as it was", x.put(sheet, 39, 1), 1);
                due("of none", x.sheet(sheet, bits, 0), 1);
                due("number 0 of none", x.put(sheet, 0, 1), BEYOND);
            }
        }
    }

    // ---- Promise 31

    private static void sheet() {
        of(31, "A SHEET has n numbers, all 0, of so many bits (8, 16, 32; 0: it is missing, n doesn't matter): 1.");
        for (int bits : new int[] {8, 16, 32}) {
            for (int n : new int[] {0, 1, 7, 8, 39, 40}) {
                OldLight x = new OldLight();
                due("sheet(3, " + bits + ", " + n + ")", x.sheet(3, bits, n), 1);
                due("its numbers", Shown.length(x, 3), n);
                for (int i = 0; i < n; i++) {
                    x.put(3, i, 7);
                }
                due("once more", x.sheet(3, bits, n), 1);
                due("numbers that are 0", zeros(x, 3), n);
            }
        }
        for (int first : new int[] {8, 16, 32}) {
            for (int bits : new int[] {8, 16, 32}) {
                OldLight x = new OldLight();
                Made.row(x, 0, first, "777777777");
                due("other bits", x.sheet(0, bits, 2), 1);
                due("its numbers", Shown.length(x, 0), 2);
                due("more again", x.sheet(0, bits, 9), 1);
                due("all 0", zeros(x, 0), 9);
                x.sheet(1, bits, 0);
                due("of so many bits", x.move(0, 0, 1, 0, 0), 0);
            }
        }
        OldLight y = Made.laden();
        y.sheet(0, 8, 1);
        same("the others stay", shown(y, 1) + " " + shown(y, 2), "987654 123456");
    }

    /** How many numbers of a SHEET are 0, from the first on. */
    private static int zeros(OldLight x, int sheet) {
        int many = 0;
        int length = Shown.length(x, sheet);
        x.bay(8);
        for (int from = 0; from < length; from += 8) {
            x.move(sheet, from, sheet, 0, Math.min(8, length - from));
            int found = x.beds(sheet);
            for (int cell = 0; cell < Math.min(found, length - from); cell++) {
                many += x.ofCell(cell, 0) == 0 ? 1 : 0;
            }
        }
        return many;
    }

    private static void sheetMissing() {
        of(31, "0: it is missing, n doesn't matter");
        for (int n : new int[] {LEAST, -1, 0, 1, 40, 41, GREATEST}) {
            for (int sheet = 0; sheet < 4; sheet++) {
                OldLight x = Made.laden();
                due("sheet(" + sheet + ", 0, " + n + ")", x.sheet(sheet, 0, n), 1);
                due("it is missing", x.put(sheet, 0, 0), NONE);
                due("judge", x.judge(sheet), NONE);
                due("no STATE: told(3)", x.told(3), Made.laden().told(3));
            }
        }
        OldLight y = new OldLight();
        Made.row(y, 2, 32, "7777777777");
        y.sheet(2, 0, 10);
        y.sheet(2, 32, 10);
        due("there again, all 0", zeros(y, 2), 10);
    }

    private static void sheetBeyond() {
        of(31, "BEYOND.");
        bounds(Made::laden, "sheet(%d, 8, 3)", 0, 3, (x, v) -> x.sheet(v, 8, 3));
        bounds(Made::laden, "sheet(%d, 0, 3)", 0, 3, (x, v) -> x.sheet(v, 0, 3));
        taken(Made::laden, "sheet(1, 32, 0)", x -> x.sheet(1, 32, 0));
        taken(Made::laden, "sheet(1, 32, 40)", x -> x.sheet(1, 32, 40));
        for (int bits : new int[] {LEAST, -32, -16, -8, -1, 1, 7, 9, 15, 17, 24, 31, 33, 40, 64, 256, 264, 65544, GREATEST}) {
            refused(Made::laden, "sheet(1, " + bits + ", 3)", x -> x.sheet(1, bits, 3), BEYOND);
        }
        for (int n : new int[] {41, 42, 64, 256, 65536, GREATEST}) {
            for (int bits : new int[] {8, 16, 32}) {
                refused(Made::laden, "sheet(2, " + bits + ", " + n + ")", x -> x.sheet(2, bits, n), BEYOND);
            }
        }
    }

    private static void sheetState() {
        of(31, "STATE: n is below 0 (ahead of BEYOND of n).");
        for (int n : new int[] {-1, -2, -8, -40, -41, -256, LEAST, LEAST + 8}) {
            for (int bits : new int[] {8, 16, 32}) {
                refused(Made::laden, "sheet(0, " + bits + ", " + n + ")", x -> x.sheet(0, bits, n), STATE);
                refused(Made::fresh, "sheet(3, " + bits + ", " + n + ")", x -> x.sheet(3, bits, n), STATE);
            }
            refused(Made::laden, "sheet(4, 8, " + n + "): BEYOND of the SHEET first", x -> x.sheet(4, 8, n), BEYOND);
            refused(Made::laden, "sheet(-1, 8, " + n + "): BEYOND of the SHEET first", x -> x.sheet(-1, 8, n), BEYOND);
            refused(Made::laden, "sheet(0, 12, " + n + "): BEYOND of the bits first", x -> x.sheet(0, 12, n), BEYOND);
        }
    }

    // ---- Promise 32

    private static void put() {
        of(32, "Number i of a SHEET becomes v (its lowest bits): 1.");
        for (int bits : new int[] {8, 16, 32}) {
            for (int sheet = 0; sheet < 4; sheet++) {
                OldLight x = new OldLight();
                Made.row(x, sheet, bits, "00000000");
                due("the first", x.put(sheet, 0, 9), 1);
                due("the last", x.put(sheet, 7, 8), 1);
                due("one between", x.put(sheet, 3, 7), 1);
                same("the row", shown(x, sheet), "90070008");
                due("once more", x.put(sheet, 3, 0), 1);
                same("the row", shown(x, sheet), "90000008");
            }
        }
    }

    private static void putLowestBits() {
        of(32, "Number i of a SHEET becomes v (its lowest bits): 1.");
        for (int bits : new int[] {8, 16, 32}) {
            int half = bits == 32 ? LEAST : 1 << bits - 1;
            int whole = bits == 32 ? 0 : 1 << bits;
            int[][] puts = {{7, 7}, {whole + 7, 7}, {7 - whole, 7}, {2 * whole + 9, 9}, {half + 7, -1}, {half - 1, 99}, {half, -1},
                {-1, -1}, {10, 99}, {whole - 1, -1}, {-half - 1, 99}, {LEAST, bits == 32 ? -1 : 0},
                {GREATEST, bits == 32 ? 99 : -1}};
            for (int[] a : puts) {
                OldLight x = new OldLight();
                x.bay(3);
                Made.row(x, 1, bits, "444");
                due("put " + a[0] + " in " + bits + " bits", x.put(1, 1, a[0]), 1);
                boolean isBed = a[1] >= 0 && a[1] < 10;
                due("as BEDS", x.beds(1), isBed ? 3 : 1);
                due("as a BED", x.ofCell(1, 0), isBed ? a[1] : 5);
                x.put(1, 0, 4);
                x.lay(1, 0, 5);
                x.lay(2, 0, 4);
                due("below 0 it is not told", x.which(1, 0), a[1] == -1 ? 100 : 0);
            }
        }
    }

    private static void putNoSheet() {
        of(32, "BEYOND: no such SHEET.");
        bounds(() -> {
            OldLight x = Made.laden();
            x.sheet(3, 8, 1);
            return x;
        }, "put(%d, 0, 1)", 0, 3, (x, v) -> x.put(v, 0, 1));
        for (int sheet : outside(0, 3)) {
            refused(Made::fresh, "put(" + sheet + ", -1, 1)", x -> x.put(sheet, -1, 1), BEYOND);
        }
    }

    private static void putNone() {
        of(32, "NONE: it is missing.");
        for (int i : new int[] {LEAST, -1, 0, 1, 39, 40, GREATEST}) {
            refused(Made::laden, "put(3, " + i + ", 1)", x -> x.put(3, i, 1), NONE);
            refused(() -> {
                OldLight x = Made.laden();
                x.sheet(1, 0, 0);
                return x;
            }, "put(1, " + i + ", 1)", x -> x.put(1, i, 1), NONE);
        }
    }

    private static void putNoNumber() {
        of(32, "BEYOND: no such number.");
        bounds(Made::laden, "put(0, %d, 1)", 0, 2, (x, v) -> x.put(0, v, 1));
        bounds(Made::laden, "put(2, %d, 1)", 0, 9, (x, v) -> x.put(2, v, 1));
        for (int i : new int[] {LEAST, -1, 0, 1, 40, GREATEST}) {
            refused(() -> {
                OldLight x = Made.laden();
                x.sheet(0, 8, 0);
                return x;
            }, "put(0, " + i + ", 1) of none", x -> x.put(0, i, 1), BEYOND);
        }
        for (int v : new int[] {LEAST, -1, 0, 256, GREATEST}) {
            taken(Made::laden, "put(0, 2, " + v + ")", x -> x.put(0, 2, v));
        }
    }

    // ---- Promise 33

    private static OldLight threeRows(int bits) {
        OldLight x = new OldLight();
        Made.row(x, 0, bits, "12345678");
        Made.row(x, 1, bits, "9087");
        Made.row(x, 2, bits, "");
        Made.row(x, 3, bits == 8 ? 16 : 8, "111");
        return x;
    }

    private static void move() {
        of(33, "n numbers of a SHEET, from number i on, come to another one (or the same), from its number j on, as they all"
            + " were: n.");
        for (int bits : new int[] {8, 16, 32}) {
            OldLight x = threeRows(bits);
            due("none", x.move(0, 0, 1, 0, 0), 0);
            due("none, behind the last", x.move(0, 8, 1, 4, 0), 0);
            due("none of none", x.move(2, 0, 2, 0, 0), 0);
            same("nothing came", shown(x, 1), "9087");
            due("the first to the last", x.move(0, 0, 1, 3, 1), 1);
            same("one came", shown(x, 1), "9081");
            due("the last to the first", x.move(0, 7, 1, 0, 1), 1);
            same("one came", shown(x, 1), "8081");
            due("as many as there may be", x.move(0, 4, 1, 0, 4), 4);
            same("all of it", shown(x, 1), "5678");
            same("the one stays", shown(x, 0), "12345678");
            due("all of the lesser", x.move(1, 0, 0, 4, 4), 4);
            due("and ahead", x.move(1, 0, 0, 1, 4), 4);
            same("both came", shown(x, 0), "15678678");
        }
        OldLight y = new OldLight();
        y.sheet(0, 32, 40);
        y.sheet(1, 32, 40);
        y.put(0, 0, 3);
        y.put(0, 39, 4);
        due("forty", y.move(0, 0, 1, 0, 40), 40);
        due("the last of forty", y.move(1, 39, 1, 1, 1), 1);
        same("the first two", shown(y, 1).substring(0, 3), "340");
        y.sheet(2, 8, 2);
        y.sheet(3, 8, 2);
        y.put(2, 1, 128);
        y.put(2, 0, -1);
        y.move(2, 0, 3, 0, 2);
        due("numbers below 0 come as they are", y.beds(3), 0);
    }

    private static void moveAsTheyWere() {
        of(33, "come to another one (or the same), from its number j on, as they all were");
        String digits = "12345678";
        for (int bits : new int[] {8, 16, 32}) {
            for (int i = 0; i <= 8; i++) {
                for (int j = 0; j <= 8; j++) {
                    for (int n = 0; n <= 8 - Math.max(i, j); n++) {
                        OldLight x = threeRows(bits);
                        due("move(0, " + i + ", 0, " + j + ", " + n + ")", x.move(0, i, 0, j, n), n);
                        StringBuilder want = new StringBuilder(digits);
                        want.replace(j, j + n, digits.substring(i, i + n));
                        same("the row", shown(x, 0), want.toString());
                    }
                }
            }
        }
    }

    private static void moveNoSheet() {
        of(33, "BEYOND: no such SHEET.");
        bounds(() -> threeRows(8), "move(%d, 0, 0, 0, 0)", 0, 3, (x, v) -> x.move(v, 0, 0, 0, 0));
        bounds(() -> threeRows(8), "move(0, 0, %d, 0, 0)", 0, 3, (x, v) -> x.move(0, 0, v, 0, 0));
        for (int sheet : outside(0, 3)) {
            refused(Made::laden, "move(" + sheet + ", 0, 3, 0, 0), BEYOND first", x -> x.move(sheet, 0, 3, 0, 0), BEYOND);
            refused(Made::laden, "move(3, -1, " + sheet + ", 0, 0), BEYOND first", x -> x.move(3, -1, sheet, 0, 0), BEYOND);
            refused(Made::laden, "move(" + sheet + ", 0, " + sheet + ", 0, 0)", x -> x.move(sheet, 0, sheet, 0, 0), BEYOND);
        }
    }

    private static void moveNone() {
        of(33, "NONE: one is missing.");
        refused(Made::laden, "move(3, 0, 0, 0, 0)", x -> x.move(3, 0, 0, 0, 0), NONE);
        refused(Made::laden, "move(0, 0, 3, 0, 0)", x -> x.move(0, 0, 3, 0, 0), NONE);
        refused(Made::laden, "move(3, 0, 3, 0, 0)", x -> x.move(3, 0, 3, 0, 0), NONE);
        refused(Made::fresh, "move(1, 0, 2, 0, 1)", x -> x.move(1, 0, 2, 0, 1), NONE);
        refused(Made::laden, "move(0, 0, 3, 0, -1), NONE first", x -> x.move(0, 0, 3, 0, -1), NONE);
        refused(Made::laden, "move(3, 41, 1, -1, 1), NONE first", x -> x.move(3, 41, 1, -1, 1), NONE);
    }

    private static void moveKind() {
        of(33, "KIND: they are of unlike bits.");
        for (int a = 0; a < 3; a++) {
            for (int b = 0; b < 3; b++) {
                int sheet = a;
                int other = b;
                if (a == b) {
                    taken(Made::laden, "move(" + a + ", 0, " + b + ", 0, 1)", x -> x.move(sheet, 0, other, 0, 1));
                } else {
                    refused(Made::laden, "move(" + a + ", 0, " + b + ", 0, 1)", x -> x.move(sheet, 0, other, 0, 1), KIND);
                    refused(Made::laden, "move(" + a + ", 0, " + b + ", 0, 0)", x -> x.move(sheet, 0, other, 0, 0), KIND);
                    refused(Made::laden, "move(" + a + ", -1, " + b + ", 41, -1)", x -> x.move(sheet, -1, other, 41, -1), KIND);
                }
            }
        }
    }

    private static void moveBeyond() {
        of(33, "BEYOND: n, i, or j is below 0, or they don't stand there.");
        int[][] rows = {{0, -1, 1, 0, 1}, {0, 0, 1, -1, 1}, {0, 0, 1, 0, -1}, {0, -1, 1, -1, -1}, {0, LEAST, 1, 0, 0}, {0, 0, 1, LEAST, 0},
            {0, 0, 1, 0, LEAST}, {0, 9, 1, 0, 0}, {0, 0, 1, 5, 0}, {0, 8, 1, 0, 1}, {0, 0, 1, 4, 1}, {0, 7, 1, 0, 2}, {0, 0, 1, 3, 2},
            {0, 0, 1, 0, 5}, {1, 0, 0, 0, 5}, {1, 4, 0, 0, 1}, {1, 0, 0, 8, 1}, {1, 0, 0, 5, 4}, {0, 0, 2, 0, 1}, {2, 0, 0, 0, 1},
            {2, 1, 2, 0, 0}, {0, 0, 0, 0, 9}, {0, 1, 0, 0, 8}, {0, 0, 0, 1, 8}, {0, GREATEST, 1, 0, 0}, {0, 0, 1, GREATEST, 0},
            {0, 0, 1, 0, GREATEST}, {0, GREATEST, 1, 0, GREATEST}, {0, 1, 0, 1, GREATEST}, {0, GREATEST, 0, 0, 1}, {0, 0, 0, GREATEST, 1},
            {0, LEAST, 0, 0, LEAST}, {0, 4, 0, 0, LEAST}, {0, GREATEST - 3, 0, 0, 8}, {0, 0, 0, GREATEST - 3, 8},
            {0, 1 << 30, 0, 1 << 30, 1 << 30}};
        for (int[] a : rows) {
            String call = "move(" + a[0] + ", " + a[1] + ", " + a[2] + ", " + a[3] + ", " + a[4] + ")";
            refused(() -> threeRows(16), call, x -> x.move(a[0], a[1], a[2], a[3], a[4]), BEYOND);
        }
        taken(() -> threeRows(16), "move(0, 7, 1, 3, 1)", x -> x.move(0, 7, 1, 3, 1));
        taken(() -> threeRows(16), "move(0, 8, 1, 4, 0)", x -> x.move(0, 8, 1, 4, 0));
        taken(() -> threeRows(16), "move(0, 0, 0, 0, 8)", x -> x.move(0, 0, 0, 0, 8));
    }

    // ---- Promise 34

    private static void beds() {
        of(34, "Numbers of a SHEET become BEDS of CELLS 0, 1, ..: how many,");
        String digits = "9012345678";
        for (int cells = 3; cells <= 8; cells++) {
            for (int n = 0; n <= 10; n++) {
                OldLight x = new OldLight();
                x.bay(cells);
                Made.row(x, 2, 16, digits.substring(0, n));
                int many = Math.min(n, cells);
                due(n + " numbers, " + cells + " CELLS", x.beds(2), many);
                for (int cell = 0; cell < cells; cell++) {
                    due("BED " + cell, x.ofCell(cell, 0), cell < many ? digits.charAt(cell) - '0' : 5);
                }
            }
        }
        OldLight y = Made.laden();
        due("with SHIPS", y.beds(0), 3);
        due("a BED", y.ofCell(0, 0), 5);
        due("a ROCK stays", y.ofCell(3, 1), 100);
        due("the row stays", y.beds(0), 3);
    }

    private static void bedsUpTo() {
        of(34, "up to the first that is not 0 to 9 (no ERROR then), or for which there is no CELL.");
        for (int v : new int[] {-1, 10, LEAST, GREATEST, 255, -128}) {
            for (int place = 0; place <= 9; place++) {
                OldLight x = new OldLight();
                Made.row(x, 0, 32, "9876543210");
                x.put(0, place, v);
                int many = Math.min(place, 8);
                due(v + " in place " + place, x.beds(0), many);
                for (int cell = 0; cell < 8; cell++) {
                    due("BED " + cell, x.ofCell(cell, 0), cell < many ? 9 - cell : 5);
                }
                row("no ERROR: told", k -> x.told(k + 1), 0, 0, 0, 0, 0);
            }
        }
        OldLight y = new OldLight();
        Made.row(y, 0, 8, "90");
        due("0 and 9 are", y.beds(0), 2);
        y.sheet(0, 8, 40);
        due("forty, of eight CELLS", y.beds(0), 8);
    }

    private static void bedsNoSheet() {
        of(34, "BEYOND: no such SHEET.");
        bounds(() -> threeRows(8), "beds(%d)", 0, 3, OldLight::beds);
        for (int sheet : outside(0, 3)) {
            refused(Made::fresh, "beds(" + sheet + "), BEYOND first", x -> x.beds(sheet), BEYOND);
        }
    }

    private static void bedsNone() {
        of(34, "NONE: it is missing.");
        for (int sheet = 0; sheet < 4; sheet++) {
            int told = sheet;
            refused(Made::fresh, "beds(" + sheet + ")", x -> x.beds(told), NONE);
            refused(() -> {
                OldLight x = threeRows(8);
                x.sheet(told, 0, 3);
                return x;
            }, "beds(" + sheet + ") of one that is missing again", x -> x.beds(told), NONE);
        }
        due("of no numbers", threeRows(8).beds(2), 0);
    }

    // ---- Promise 35

    private static void judge() {
        of(35, "Numbers of a SHEET are where SHIPS 0, 1, .. are AT: the first that isn't so");
        for (int bits : new int[] {8, 16, 32}) {
            for (int place = 0; place < 7; place++) {
                OldLight x = new OldLight();
                for (int i = 0; i < 7; i++) {
                    x.ship(0, 0, 7 - i);
                }
                Made.row(x, 3, bits, "7654321");
                due("all are", x.judge(3), -1);
                x.put(3, place, place);
                due("place " + place, x.judge(3), 7 - place == place ? -1 : place);
                x.put(3, 6, 0);
                due("and the last", x.judge(3), place);
                x.put(3, 6, 1);
                x.put(3, place, -1);
                due("place " + place + " below 0", x.judge(3), place);
                x.put(3, place, 256 + 7 - place);
                due("place " + place + " with higher bits", x.judge(3), bits == 8 ? -1 : place);
            }
        }
        OldLight y = new OldLight();
        y.ship(0, 5, 3);
        Made.row(y, 0, 8, "2");
        due("not yet", y.judge(0), 0);
        y.hours(1);
        due("an HOUR later", y.judge(0), -1);
        y.change(0, 2, 1);
        due("LOST", y.judge(0), -1);
    }

    private static void judgeLengths() {
        of(35, "(one that lacks, or is too many, too); -1: all are.");
        for (int ships = 0; ships <= 7; ships++) {
            OldLight x = new OldLight();
            for (int i = 0; i < ships; i++) {
                x.ship(20, 9, 4);
            }
            for (int n = 0; n <= 9; n++) {
                Made.row(x, 1, 16, "4".repeat(n));
                due(n + " numbers, " + ships + " SHIPS", x.judge(1), n == ships ? -1 : Math.min(n, ships));
            }
        }
        OldLight y = new OldLight();
        y.sheet(1, 32, 40);
        due("forty numbers, no SHIPS", y.judge(1), 0);
        y.ship(0, 0, 0);
        due("forty numbers, one SHIP", y.judge(1), 1);
        y.ship(0, 0, 1);
        due("forty numbers, two SHIPS, the second isn't so", y.judge(1), 1);
    }

    private static void judgeNoSheet() {
        of(35, "BEYOND: no such SHEET.");
        bounds(() -> threeRows(8), "judge(%d)", 0, 3, OldLight::judge);
        for (int sheet : outside(0, 3)) {
            refused(Made::fresh, "judge(" + sheet + "), BEYOND first", x -> x.judge(sheet), BEYOND);
        }
    }

    private static void judgeNone() {
        of(35, "NONE: it is missing.");
        for (int sheet = 0; sheet < 4; sheet++) {
            int told = sheet;
            refused(Made::fresh, "judge(" + sheet + ")", x -> x.judge(told), NONE);
            refused(() -> {
                OldLight x = threeRows(8);
                x.sheet(told, 0, 3);
                return x;
            }, "judge(" + sheet + ") of one that is missing again", x -> x.judge(told), NONE);
        }
        due("of no numbers, no SHIPS", threeRows(8).judge(2), -1);
    }
}
