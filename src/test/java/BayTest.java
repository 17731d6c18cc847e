/** Promises 1 to 5: a new object, bay, lay, ofCell, set. */
public final class BayTest {
    private static final String FACE = "bay lay ofCell set ship ofShip change become as feed text law hours loose depth"
        + " then lost setting leastFalse which struck dark deep draws traffic odds seed voice trace sheet put move"
        + " beds judge image restore tell check count told ";

    public static void main(String[] args) {
        promise01NewObject();
        promise01Face();
        promise02Bay();
        promise02Renews();
        promise03Lay();
        promise04OfCell();
        promise04Sets();
        promise05Set();
        Expect.end();
    }

    private static void promise01NewObject() {
        int[] due = {8, 0, 0, 200, 0, 0, 0, 0, 0, 0, 0, 1};
        OldLight x = new OldLight();
        for (int what = 0; what < due.length; what++) {
            Expect.due("new: count(" + what + ")", x.count(what), due[what]);
        }
        int[] dueOfCell = {5, 1, 0, 5, 5, 0};
        for (int cell = 0; cell < 8; cell++) {
            for (int what = 0; what < dueOfCell.length; what++) {
                Expect.due("new: ofCell(" + cell + ", " + what + ")", x.ofCell(cell, what), dueOfCell[what]);
            }
        }
        Expect.due("new: ofShip(0, 0)", x.ofShip(0, 0), Expect.BEYOND);
        for (int sheet = 0; sheet < 4; sheet++) {
            Expect.due("new: put(" + sheet + ", 0, 0)", x.put(sheet, 0, 0), Expect.NONE);
        }
        Expect.due("new: trace(0)", x.trace(0), Expect.NONE);
        Expect.due("new: restore()", x.restore(), Expect.NONE);
        Expect.due("new: law(0, 1, 2, 3)", x.law(0, 1, 2, 3), 3);
        Expect.due("new: law(1, 1, 2, 3)", x.law(1, 1, 2, 3), 0);
    }

    private static void promise01Face() {
        int found = 0;
        for (java.lang.reflect.Method method : OldLight.class.getDeclaredMethods()) {
            if (!java.lang.reflect.Modifier.isPrivate(method.getModifiers()) && !method.isSynthetic()) {
                found++;
                Expect.holds("face: " + method.getName(), FACE.contains(method.getName() + " "));
                Expect.holds("public: " + method.getName(), java.lang.reflect.Modifier.isPublic(method.getModifiers()));
            }
        }
        Expect.due("face: methods", found, FACE.split(" ").length);
        for (java.lang.reflect.Field field : OldLight.class.getDeclaredFields()) {
            Expect.holds("private: " + field.getName(), java.lang.reflect.Modifier.isPrivate(field.getModifiers()));
        }
    }

    private static void promise02Bay() {
        OldLight x = new OldLight();
        Expect.due("bay(2)", x.bay(2), Expect.BEYOND);
        Expect.due("bay(9)", x.bay(9), Expect.BEYOND);
        Expect.due("bay(-2147483648)", x.bay(Integer.MIN_VALUE), Expect.BEYOND);
        Expect.due("bay(3)", x.bay(3), 8);
        Expect.due("bay(8)", x.bay(8), 3);
        Expect.due("bay(5)", x.bay(5), 8);
        Expect.due("ship(0, 1, 4)", x.ship(0, 1, 4), 0);
        Expect.due("bay(6) with a SHIP", x.bay(6), Expect.STATE);
        Expect.due("bay(9) with a SHIP: BEYOND first", x.bay(9), Expect.BEYOND);
        Expect.due("count(0)", x.count(0), 5);
    }

    private static void promise02Renews() {
        OldLight x = new OldLight();
        x.lay(7, 0, 2);
        x.lay(1, 0, 9);
        x.lay(1, 1, 100);
        x.lay(1, 2, 300);
        x.set(2, 255);
        x.set(1, 7);
        x.set(0, 33);
        Expect.law(x, 0, "b+1");
        Expect.due("bay(4)", x.bay(4), 8);
        Expect.due("bay(8)", x.bay(8), 4);
        int[] due = {5, 1, 0, 6, 6, 0};
        for (int what = 0; what < due.length; what++) {
            Expect.due("renewed: ofCell(1, " + what + ")", x.ofCell(1, what), due[what]);
            Expect.due("renewed: ofCell(7, " + what + ")", x.ofCell(7, what), due[what]);
        }
        Expect.due("renewed: BEAM", x.count(5), 0);
        Expect.due("renewed: BACK stays", x.count(4), 7);
        Expect.due("renewed: YEAR stays", x.count(3), 33);
    }

    private static void promise03Lay() {
        OldLight x = new OldLight();
        x.bay(4);
        Expect.due("lay(0, 0, 0)", x.lay(0, 0, 0), 5);
        Expect.due("lay(0, 0, 9)", x.lay(0, 0, 9), 0);
        Expect.due("lay(3, 1, 999)", x.lay(3, 1, 999), 1);
        Expect.due("lay(3, 2, 0)", x.lay(3, 2, 0), 0);
        Expect.due("lay(3, 2, 999)", x.lay(3, 2, 999), 0);
        Expect.due("lay(3, 1, 0)", x.lay(3, 1, 0), 999);
        int[][] beyond = {{-1, 0, 1}, {4, 0, 1}, {0, -1, 1}, {0, 3, 1}, {0, 0, -1}, {0, 0, 10}, {0, 1, -1},
            {0, 1, 1000}, {0, 2, -1}, {0, 2, 1000}, {Integer.MAX_VALUE, 0, 0}};
        for (int[] a : beyond) {
            Expect.due("lay(" + a[0] + ", " + a[1] + ", " + a[2] + ")", x.lay(a[0], a[1], a[2]), Expect.BEYOND);
        }
        Expect.due("ofCell(0, 0)", x.ofCell(0, 0), 9);
        Expect.due("ofCell(3, 1)", x.ofCell(3, 1), 0);
        Expect.due("ofCell(3, 2)", x.ofCell(3, 2), 999);
        Expect.due("told(1)", x.told(1), beyond.length);
    }

    private static void promise04OfCell() {
        OldLight x = new OldLight();
        x.lay(2, 0, 8);
        x.lay(2, 1, 190);
        x.lay(2, 2, 195);
        Expect.due("TRUE behind the ROCK", x.ofCell(2, 3), 8);
        x.set(1, 10);
        Expect.due("SHOWN out of BEAM", x.ofCell(2, 4), 8);
        x.set(2, 4);
        Expect.due("SHOWN in BEAM", x.ofCell(2, 4), 0);
        int[] backs = {4, 5, 10, 11};
        int[] shown = {8, 0, 0, 8};
        for (int i = 0; i < backs.length; i++) {
            x.set(1, backs[i]);
            Expect.due("SHOWN " + backs[i] + " back", x.ofCell(2, 4), shown[i]);
        }
        x.set(0, 195);
        Expect.due("TRUE with the ROCK's last YEAR", x.ofCell(2, 3), 0);
        x.set(0, 190);
        Expect.due("TRUE with the ROCK's first YEAR", x.ofCell(2, 3), 0);
        x.set(0, 189);
        Expect.due("TRUE ahead of the ROCK", x.ofCell(2, 3), 8);
        int[][] beyond = {{-1, 0}, {8, 0}, {0, -1}, {0, 6}};
        for (int[] a : beyond) {
            Expect.due("ofCell(" + a[0] + ", " + a[1] + ")", x.ofCell(a[0], a[1]), Expect.BEYOND);
        }
    }

    private static void promise04Sets() {
        OldLight x = new OldLight();
        x.ship(0, 1, 3);
        x.ship(0, 1, 0);
        x.ship(0, 1, 3);
        x.change(2, 2, 1);
        Expect.due("SHIPS AT 3, one LOST", x.ofCell(3, 5), 5);
        Expect.due("SHIPS AT 0", x.ofCell(0, 5), 2);
        Expect.due("SHIPS AT 1", x.ofCell(1, 5), 0);
    }

    private static void promise05Set() {
        OldLight x = new OldLight();
        x.bay(6);
        Expect.due("set(0, 0)", x.set(0, 0), 200);
        Expect.due("set(0, 999)", x.set(0, 999), 0);
        Expect.due("set(1, 99)", x.set(1, 99), 0);
        Expect.due("set(1, 0)", x.set(1, 0), 99);
        Expect.due("set(2, 63)", x.set(2, 63), 0);
        Expect.due("set(2, 0)", x.set(2, 0), 63);
        int[][] beyond = {{-1, 0}, {3, 0}, {0, -1}, {0, 1000}, {1, -1}, {1, 100}, {2, -1}, {2, 64}};
        for (int[] a : beyond) {
            Expect.due("set(" + a[0] + ", " + a[1] + ")", x.set(a[0], a[1]), Expect.BEYOND);
        }
        Expect.due("YEAR", x.count(3), 999);
        Expect.due("BACK", x.count(4), 0);
        Expect.due("BEAM", x.count(5), 0);
    }
}
