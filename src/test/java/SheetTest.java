/** Promises 31 to 35: sheet, put, move, beds, judge. */
public final class SheetTest {
    public static void main(String[] args) {
        promise31Sheet();
        promise32Put();
        promise32LowestBits();
        promise33Move();
        promise33AsTheyAllWere();
        promise33Errors();
        promise34Beds();
        promise35Judge();
        Expect.end();
    }

    private static void promise31Sheet() {
        OldLight x = new OldLight();
        int[][] due = {{-1, 8, 1, Expect.BEYOND}, {4, 8, 1, Expect.BEYOND}, {0, 7, 1, Expect.BEYOND},
            {0, -8, 1, Expect.BEYOND}, {0, 64, 1, Expect.BEYOND}, {0, 24, -1, Expect.BEYOND}, {4, 8, -1, Expect.BEYOND},
            {0, 8, -1, Expect.STATE}, {0, 8, Integer.MIN_VALUE, Expect.STATE}, {0, 8, 41, Expect.BEYOND},
            {0, 8, 40, 1}, {1, 16, 0, 1}, {2, 32, 1, 1}, {3, 0, -5, 1}, {3, 0, 900, 1}};
        for (int[] a : due) {
            Expect.due("sheet(" + a[0] + ", " + a[1] + ", " + a[2] + ")", x.sheet(a[0], a[1], a[2]), a[3]);
        }
        Expect.due("put(0, 39, 1)", x.put(0, 39, 1), 1);
        Expect.due("put(0, 40, 1)", x.put(0, 40, 1), Expect.BEYOND);
        Expect.due("put(1, 0, 1)", x.put(1, 0, 1), Expect.BEYOND);
        Expect.due("put(3, 0, 1)", x.put(3, 0, 1), Expect.NONE);
        x.sheet(0, 0, 0);
        Expect.due("missing again", x.put(0, 0, 1), Expect.NONE);
        x.sheet(2, 32, 2);
        x.put(2, 1, 6);
        x.sheet(2, 32, 2);
        x.ship(0, 0, 0);
        x.ship(0, 0, 0);
        Expect.due("all numbers are 0 again", x.judge(2), -1);
    }

    private static void promise32Put() {
        OldLight x = new OldLight();
        x.sheet(2, 8, 3);
        Expect.due("put(-1, 0, 0)", x.put(-1, 0, 0), Expect.BEYOND);
        Expect.due("put(4, 0, 0)", x.put(4, 0, 0), Expect.BEYOND);
        Expect.due("put(1, 0, 0)", x.put(1, 0, 0), Expect.NONE);
        Expect.due("put(1, 99, 0): NONE first", x.put(1, 99, 0), Expect.NONE);
        Expect.due("put(2, 3, 0)", x.put(2, 3, 0), Expect.BEYOND);
        Expect.due("put(2, -1, 0)", x.put(2, -1, 0), Expect.BEYOND);
        Expect.due("put(2, 2, 1)", x.put(2, 2, 1), 1);
        x.ship(0, 0, 0);
        x.ship(0, 0, 0);
        x.ship(0, 0, 1);
        Expect.due("judge(2)", x.judge(2), -1);
    }

    private static void promise32LowestBits() {
        int[] puts = {0x7F01, 0x1FF, 0x10007, 0x8000, 0xFFFF, 128};
        int none = 10;
        int[][] beds = {{1, none, 7, 0, none, none}, {none, none, 7, none, none, none},
            {none, none, none, none, none, none}};
        for (int i = 0; i < 3; i++) {
            int bits = 8 << i;
            for (int j = 0; j < puts.length; j++) {
                OldLight x = new OldLight();
                x.sheet(0, bits, 1);
                x.put(0, 0, puts[j]);
                boolean isBed = beds[i][j] != none;
                Expect.due("BEDS of " + bits + " bits: " + puts[j], x.beds(0), isBed ? 1 : 0);
                Expect.due("BED of " + bits + " bits: " + puts[j], x.ofCell(0, 0), isBed ? beds[i][j] : 5);
            }
            OldLight x = new OldLight();
            x.bay(3);
            fill(x, 0, bits, "000");
            x.put(0, 0, 128);
            x.put(0, 1, -1);
            x.put(0, 2, -1);
            Expect.due("128 is below 0 in 8 bits alone", x.which(0, 0), bits == 8 ? 100 : 0);
            x.put(0, 0, 32768);
            Expect.due("32768 is below 0 in 16 bits alone", x.which(0, 0), bits == 16 ? 100 : 0);
        }
    }

    /** A row of numbers as BEDS, which shows what stands in it. */
    private static String shown(OldLight x, int sheet) {
        StringBuilder row = new StringBuilder();
        int many = x.beds(sheet);
        for (int cell = 0; cell < many; cell++) {
            row.append(x.ofCell(cell, 0));
        }
        return row.toString();
    }

    private static void fill(OldLight x, int sheet, int bits, String digits) {
        x.sheet(sheet, bits, digits.length());
        for (int i = 0; i < digits.length(); i++) {
            x.put(sheet, i, digits.charAt(i) - '0');
        }
    }

    private static void promise33Move() {
        OldLight x = new OldLight();
        fill(x, 0, 16, "12345");
        fill(x, 1, 16, "6789");
        Expect.due("move(0, 1, 1, 2, 2)", x.move(0, 1, 1, 2, 2), 2);
        Expect.holds("the other one", shown(x, 1).equals("6723"));
        Expect.holds("the one", shown(x, 0).equals("12345"));
        Expect.due("move(1, 0, 0, 1, 4)", x.move(1, 0, 0, 1, 4), 4);
        Expect.holds("all of it", shown(x, 0).equals("16723"));
        Expect.due("move(0, 5, 1, 4, 0)", x.move(0, 5, 1, 4, 0), 0);
        Expect.holds("nothing moved", shown(x, 1).equals("6723"));
    }

    private static void promise33AsTheyAllWere() {
        OldLight x = new OldLight();
        fill(x, 3, 32, "12345678");
        Expect.due("move(3, 0, 3, 2, 5)", x.move(3, 0, 3, 2, 5), 5);
        Expect.holds("toward the end", shown(x, 3).equals("12123458"));
        Expect.due("move(3, 3, 3, 0, 5)", x.move(3, 3, 3, 0, 5), 5);
        Expect.holds("toward the beginning", shown(x, 3).equals("23458458"));
    }

    private static void promise33Errors() {
        OldLight x = new OldLight();
        fill(x, 0, 8, "123");
        fill(x, 1, 8, "4567");
        fill(x, 2, 16, "89");
        int big = Integer.MAX_VALUE;
        int[][] due = {{-1, 0, 0, 0, 1, Expect.BEYOND}, {4, 0, 0, 0, 1, Expect.BEYOND}, {0, 0, -1, 0, 1, Expect.BEYOND},
            {3, 0, 4, 0, 1, Expect.BEYOND}, {0, 0, 3, 0, 1, Expect.NONE}, {3, 0, 0, 0, 1, Expect.NONE},
            {3, -1, 3, -1, -1, Expect.NONE}, {0, 0, 2, 0, 1, Expect.KIND}, {2, -1, 1, -1, -1, Expect.KIND},
            {0, -1, 1, 0, 1, Expect.BEYOND}, {0, 0, 1, -1, 1, Expect.BEYOND}, {0, 0, 1, 0, -1, Expect.BEYOND},
            {0, 0, 1, 0, 4, Expect.BEYOND}, {0, 2, 1, 0, 2, Expect.BEYOND}, {1, 0, 0, 0, 4, Expect.BEYOND},
            {1, 0, 0, 2, 2, Expect.BEYOND}, {0, 4, 1, 0, 0, Expect.BEYOND}, {0, 0, 1, 5, 0, Expect.BEYOND},
            {0, big, 1, 0, big, Expect.BEYOND}, {0, 1, 1, 1, big, Expect.BEYOND}, {0, 0, 1, big, 1, Expect.BEYOND}};
        for (int[] a : due) {
            String call = "move(" + a[0] + ", " + a[1] + ", " + a[2] + ", " + a[3] + ", " + a[4] + ")";
            Expect.due(call, x.move(a[0], a[1], a[2], a[3], a[4]), a[5]);
        }
        Expect.holds("0 stays", shown(x, 0).equals("123"));
        Expect.holds("1 stays", shown(x, 1).equals("4567"));
    }

    private static void promise34Beds() {
        OldLight x = new OldLight();
        x.bay(4);
        Expect.due("beds(-1)", x.beds(-1), Expect.BEYOND);
        Expect.due("beds(4)", x.beds(4), Expect.BEYOND);
        Expect.due("beds(0)", x.beds(0), Expect.NONE);
        fill(x, 0, 8, "");
        Expect.due("of no numbers", x.beds(0), 0);
        fill(x, 0, 8, "90");
        Expect.due("fewer than CELLS", x.beds(0), 2);
        Expect.due("BED 0", x.ofCell(0, 0), 9);
        Expect.due("BED 1", x.ofCell(1, 0), 0);
        Expect.due("BED 2", x.ofCell(2, 0), 5);
        fill(x, 0, 8, "123456");
        Expect.due("more than CELLS", x.beds(0), 4);
        x.put(0, 0, 8);
        x.put(0, 1, 10);
        Expect.due("up to 10", x.beds(0), 1);
        Expect.due("BED 0", x.ofCell(0, 0), 8);
        Expect.due("BED 1", x.ofCell(1, 0), 2);
        Expect.due("BED 2", x.ofCell(2, 0), 3);
        x.put(0, 0, -1);
        Expect.due("up to -1", x.beds(0), 0);
        Expect.due("BED 0 stays", x.ofCell(0, 0), 8);
        Expect.due("told(1)", x.told(1), 2);
    }

    private static void promise35Judge() {
        OldLight x = new OldLight();
        Expect.due("judge(-1)", x.judge(-1), Expect.BEYOND);
        Expect.due("judge(4)", x.judge(4), Expect.BEYOND);
        Expect.due("judge(0)", x.judge(0), Expect.NONE);
        fill(x, 0, 8, "");
        Expect.due("no numbers, no SHIPS", x.judge(0), -1);
        x.ship(0, 0, 3);
        Expect.due("the first lacks", x.judge(0), 0);
        x.ship(0, 0, 7);
        fill(x, 0, 8, "37");
        Expect.due("all are", x.judge(0), -1);
        fill(x, 0, 8, "36");
        Expect.due("the second isn't so", x.judge(0), 1);
        fill(x, 0, 8, "27");
        Expect.due("the first isn't so", x.judge(0), 0);
        fill(x, 0, 8, "3");
        Expect.due("the second lacks", x.judge(0), 1);
        fill(x, 0, 8, "370");
        Expect.due("a third is too many", x.judge(0), 2);
    }
}
