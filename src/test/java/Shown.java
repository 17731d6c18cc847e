/** All that calls can show of an object, as a text; the object is of no more use then. */
final class Shown {
    private Shown() {
    }

    static String all(OldLight x) {
        StringBuilder all = new StringBuilder();
        kept(x, all);
        trace(x, all);
        sheets(x, all);
        tapeAndNumbers(x, all);
        all.append("| IMAGE ").append(x.restore()).append(' ');
        kept(x, all);
        tapeAndNumbers(x, all);
        all.append("| images ").append(x.image());
        return all.toString();
    }

    /** What an IMAGE keeps, but THE TAPE's bytes and the numbers that wait. */
    static String kept(OldLight x) {
        StringBuilder all = new StringBuilder();
        kept(x, all);
        return all.toString();
    }

    private static void kept(OldLight x, StringBuilder all) {
        all.append("| count ");
        for (int what = 0; what < 12; what++) {
            all.append(what == 10 ? "" : x.count(what) + " ");
        }
        for (int cell = 0; cell < x.count(0); cell++) {
            all.append("| CELL ").append(cell).append(": ");
            for (int what = 0; what < 6; what++) {
                all.append(x.ofCell(cell, what)).append(' ');
            }
        }
        for (int ship = 0; ship < x.count(1); ship++) {
            all.append("| SHIP ").append(ship).append(": ");
            for (int what = 0; what < 6; what++) {
                all.append(x.ofShip(ship, what)).append(' ');
            }
        }
        all.append("| TEXTS ");
        int[][] names = {{3, 4, 5}, {6, 333, 2}, {0, 99, 9}};
        for (int[] a : names) {
            all.append(x.law(0, a[0], a[1], a[2])).append(' ').append(x.law(1, a[0], a[1], a[2])).append(' ');
        }
    }

    private static void trace(OldLight x, StringBuilder all) {
        all.append("| TRACE ");
        for (int i = 0; i < x.count(10); i++) {
            all.append(x.trace(i)).append(' ');
        }
    }

    private static void sheets(OldLight x, StringBuilder all) {
        for (int sheet = 0; sheet < 4; sheet++) {
            for (int other = sheet + 1; other < 4; other++) {
                all.append("| like ").append(x.move(sheet, 0, other, 0, 0)).append(' ');
            }
        }
        for (int sheet = 0; sheet < 4; sheet++) {
            int length = length(x, sheet);
            all.append("| SHEET of ").append(length).append(": ");
            for (int from = 0; from < length; from += 8) {
                x.move(sheet, from, sheet, 0, Math.min(8, length - from));
                int many = x.beds(sheet);
                for (int cell = 0; cell < many; cell++) {
                    all.append(x.ofCell(cell, 0)).append(' ');
                }
                all.append("; ");
            }
        }
        for (int bits = 8; bits <= 16; bits += 8) {
            x.sheet(0, bits, 0);
            for (int other = 1; other < 4; other++) {
                all.append(x.move(0, 0, other, 0, 0)).append(' ');
            }
        }
    }

    /** How many numbers a SHEET has: -1 if it is missing. */
    static int length(OldLight x, int sheet) {
        if (x.move(sheet, 0, sheet, 0, 0) < 0) {
            return -1;
        }
        int least = 0;
        int greatest = 40;
        while (least < greatest) {
            int middle = (least + greatest + 1) / 2;
            boolean stand = x.move(sheet, 0, sheet, 0, middle) == middle;
            least = stand ? middle : least;
            greatest = stand ? greatest : middle - 1;
        }
        return least;
    }

    private static void tapeAndNumbers(OldLight x, StringBuilder all) {
        all.append("| numbers ").append(x.check());
        all.append(" THE TAPE ").append(x.text(0)).append(' ').append(x.law(0, 3, 4, 5)).append(' ');
    }
}
