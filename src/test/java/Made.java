/** Objects that tests of single sentences begin with. */
final class Made {
    private Made() {
    }

    static OldLight fresh() {
        return new OldLight();
    }

    /** Something of everything: six CELLS, three SHIPS, TEXTS, SHEETS of each bits, an IMAGE, numbers, bytes, ERRORS. */
    static OldLight laden() {
        OldLight x = new OldLight();
        x.bay(6);
        x.lay(2, 0, 3);
        x.set(2, 0x15);
        x.ship(31, 7, 5);
        errors(x);
        x.tell(9);
        x.image();
        x.lay(3, 1, 100);
        x.lay(3, 2, 300);
        x.set(0, 333);
        x.set(1, 44);
        x.set(2, 0x2A);
        x.become(0, 14);
        x.change(0, 0, 3);
        x.ship(65, 4, 4);
        x.change(1, 2, 1);
        x.ship(27, 2, 3);
        Expect.text(x, 0, "c+y%2+b");
        Expect.text(x, 1, "d<m");
        Expect.feed(x, "b+7");
        x.tell(1);
        x.seed(99);
        x.hours(3);
        x.voice(1, 3, 7);
        row(x, 0, 8, "543");
        row(x, 1, 16, "987654");
        row(x, 2, 32, "1234567890");
        return x;
    }

    /** One ERROR BEYOND, two NONE, three STATE, four FULL, five KIND; THE TAPE is empty then. */
    private static void errors(OldLight x) {
        for (int i = 0; i < 6; i++) {
            x.feed(0, 8);
        }
        for (int i = 0; i < 5; i++) {
            if (i < 1) {
                x.bay(0);
            }
            if (i < 2) {
                x.trace(-1);
            }
            if (i < 3) {
                x.sheet(0, 8, -1);
            }
            if (i < 4) {
                x.feed(0, 8);
            }
            x.as(0, 2);
        }
        x.text(0);
    }

    /** A SHEET of some bits with these digits for its numbers. */
    static void row(OldLight x, int sheet, int bits, String digits) {
        x.sheet(sheet, bits, digits.length());
        for (int i = 0; i < digits.length(); i++) {
            x.put(sheet, i, digits.charAt(i) - '0');
        }
    }

    /** Something of everything, and as many SHIPS as there may be. */
    static OldLight sevenShips() {
        OldLight x = laden();
        while (x.count(1) < 7) {
            x.ship(10 * x.count(1) + 9, 5, x.count(1) - 2);
        }
        return x;
    }

    static OldLight withTape(int bytes) {
        OldLight x = laden();
        x.text(0);
        for (int i = 0; i < bytes; i++) {
            x.feed(i % 2 == 0 ? '1' : '+', 1);
        }
        return x;
    }

    static OldLight withNumbers(int many) {
        OldLight x = laden();
        x.check();
        for (int i = 0; i < many; i++) {
            x.tell(1);
        }
        return x;
    }

    /** A bay with some SHIPS when so many HOURS have passed. */
    static OldLight atHour(int hour) {
        OldLight x = new OldLight();
        x.bay(5);
        x.set(1, 3);
        x.set(2, 9);
        ships(x, new int[] {5, 9, 2}, new int[] {20, 5, 0}, new int[] {31, 9, 4});
        x.seed(-5);
        int passed = 0;
        while (passed < hour) {
            int n = Math.min(60, hour - passed);
            x.hours(n);
            passed += n;
        }
        return x;
    }

    /** TRUE is 2 everywhere; 10 YEARS ago and earlier it was 6; all CELLS are in BEAM, the lens is 10 back. */
    static OldLight silted() {
        OldLight x = new OldLight();
        Expect.text(x, 0, "2+4*(y<191)");
        x.set(1, 10);
        x.set(2, 255);
        return x;
    }

    /** A silted bay with SHIPS, each of a KIND and m, a DRAFT, AT a CELL. */
    static OldLight silted(int[]... ships) {
        OldLight x = silted();
        ships(x, ships);
        return x;
    }

    /** Seven SHIPS that can come in, some HOURS from 0. */
    static OldLight allIn() {
        OldLight x = silted();
        for (int i = 0; i < 7; i++) {
            x.ship(20, 2, i % 4);
        }
        return x;
    }

    static void ships(OldLight x, int[]... ships) {
        for (int[] s : ships) {
            x.ship(s[0], s[1], s[2]);
        }
    }
}
