/** Promises 36 to 41: image, restore, tell, check, count, told. */
public final class ImageTest {
    public static void main(String[] args) {
        promise36And37Image();
        promise36LeftOut();
        promise37Stays();
        promise38Tell();
        promise39Check();
        promise40Count();
        promise41Told();
        Expect.end();
    }

    private static final String[] STATE_CALLS = {"count", "ofCell", "ofShip", "law"};

    /** What the calls that ask tell of the bay, SHIPS, TEXTS and the rest that an IMAGE keeps. */
    private static String state(OldLight x) {
        StringBuilder all = new StringBuilder(STATE_CALLS[0]);
        for (int what = 0; what < 12; what++) {
            all.append(what == 10 ? 0 : x.count(what)).append(' ');
        }
        all.append(STATE_CALLS[1]);
        for (int cell = 0; cell < x.count(0); cell++) {
            for (int what = 0; what < 6; what++) {
                all.append(x.ofCell(cell, what)).append(' ');
            }
        }
        all.append(STATE_CALLS[2]);
        for (int ship = 0; ship < x.count(1); ship++) {
            for (int what = 0; what < 6; what++) {
                all.append(x.ofShip(ship, what)).append(' ');
            }
        }
        all.append(STATE_CALLS[3]).append(x.law(0, 3, 4, 5)).append(' ').append(x.law(1, 3, 4, 5));
        return all.toString();
    }

    private static OldLight laden() {
        OldLight x = new OldLight();
        x.bay(7);
        x.lay(2, 0, 3);
        x.lay(3, 1, 100);
        x.lay(3, 2, 300);
        x.set(0, 333);
        x.set(1, 44);
        x.set(2, 0x5A);
        x.ship(14, 3, 6);
        x.ship(65, 4, 5);
        x.change(1, 2, 1);
        Expect.law(x, 0, "c+y%2+b");
        Expect.law(x, 1, "d<m");
        Expect.feed(x, "b+1");
        x.tell(0);
        x.seed(99);
        x.hours(3);
        return x;
    }

    private static void disturb(OldLight x) {
        x.lay(2, 0, 8);
        x.lay(3, 1, 9);
        x.lay(3, 2, 1);
        x.set(0, 5);
        x.set(1, 6);
        x.set(2, 7);
        x.become(0, 33);
        x.change(0, 0, 7);
        x.change(0, 1, 2);
        x.change(1, 2, 0);
        x.ship(0, 0, 0);
        x.text(0);
        Expect.law(x, 1, "0");
        Expect.feed(x, "77");
        x.check();
        x.tell(5);
        x.tell(6);
        x.loose(9);
    }

    private static void promise36And37Image() {
        OldLight x = laden();
        String was = state(x);
        Expect.due("image()", x.image(), 1);
        Expect.holds("image() changes nothing", state(x).equals(was));
        disturb(x);
        Expect.holds("all is otherwise", !state(x).equals(was));
        Expect.due("restore()", x.restore(), 3);
        Expect.due("state: " + state(x) + " and it was: " + was, state(x).equals(was) ? 1 : 0, 1);
        Expect.due("what stands on THE TAPE", x.text(0), 1);
        Expect.due("law(0, 0, 0, 8)", x.law(0, 0, 0, 8), 9);
        Expect.due("the number that waits", x.check(), 0);
        OldLight y = new OldLight();
        y.bay(3);
        y.image();
        y.bay(8);
        y.ship(0, 0, 7);
        Expect.due("restore() to a bay without SHIPS", y.restore(), 0);
        Expect.due("CELLS", y.count(0), 3);
        Expect.due("bay(5)", y.bay(5), 3);
    }

    private static void promise36LeftOut() {
        OldLight x = new OldLight();
        Expect.due("restore()", x.restore(), Expect.NONE);
        x.ship(0, 0, 0);
        x.voice(0, 0, 0);
        x.sheet(0, 8, 1);
        Expect.due("image()", x.image(), 1);
        x.voice(0, 3, 0);
        x.put(0, 0, 4);
        x.sheet(1, 8, 1);
        x.bay(1);
        Expect.due("restore()", x.restore(), 0);
        Expect.due("THE TRACE is as it was", x.count(10), 4);
        Expect.due("SHEETS are as they were", x.put(1, 0, 0), 1);
        Expect.due("SHEETS are as they were", x.judge(0), 0);
        Expect.due("told(1)", x.told(1), 1);
        Expect.due("told(2)", x.told(2), 1);
        Expect.due("image()", x.image(), 2);
    }

    private static void promise37Stays() {
        OldLight x = new OldLight();
        x.set(0, 7);
        x.image();
        x.set(0, 8);
        x.hours(5);
        Expect.due("restore()", x.restore(), 0);
        Expect.due("YEAR", x.count(3), 7);
        x.set(0, 9);
        x.lay(0, 0, 1);
        Expect.due("restore() again", x.restore(), 0);
        Expect.due("YEAR", x.count(3), 7);
        Expect.due("BED", x.ofCell(0, 0), 5);
        x.set(0, 10);
        Expect.due("image() in place of it", x.image(), 2);
        x.set(0, 11);
        x.restore();
        Expect.due("YEAR", x.count(3), 10);
    }

    private static void promise38Tell() {
        OldLight x = new OldLight();
        for (int i = 1; i <= 20; i++) {
            Expect.due("tell(" + -i + ")", x.tell(-i), i);
        }
        Expect.due("tell(0)", x.tell(0), Expect.FULL);
        Expect.due("count(9)", x.count(9), 20);
        Expect.due("check()", x.check(), 1);
        Expect.due("count(9)", x.count(9), 0);
        Expect.due("tell(0)", x.tell(0), 1);
    }

    private static void tellAll(OldLight x, int... numbers) {
        for (int number : numbers) {
            x.tell(number);
        }
    }

    private static void promise39Check() {
        OldLight x = new OldLight();
        Expect.due("no numbers", x.check(), 0);
        x.ship(0, 5, 2);
        x.ship(0, 5, 3);
        x.ship(0, 5, 0);
        tellAll(x, 1, 2, 3, 3);
        Expect.due("all are so", x.check(), 0);
        Expect.due("none waits", x.count(9), 0);
        Expect.due("HOUR", x.count(2), 0);
        tellAll(x, 1, 2, 2, 3);
        Expect.due("the third isn't so", x.check(), 4 - 1);
        Expect.due("none waits", x.count(9), 0);
        tellAll(x, 2, 2);
        Expect.due("the first isn't so", x.check(), 1);
        for (int i = 0; i < 20; i++) {
            x.tell(i < 2 ? i + 1 : i == 19 ? 2 : 3);
        }
        Expect.due("the twentieth isn't so", x.check(), 20);
    }

    private static void promise40Count() {
        OldLight x = laden();
        x.voice(0, 1, 1);
        x.change(1, 1, 0);
        int[] due = {7, 2, 3, 333, 44, 0x5A, 1, 1, 3, 1, 3, 99};
        for (int what = 0; what < due.length; what++) {
            Expect.due("count(" + what + ")", x.count(what), due[what]);
        }
        Expect.due("count(-1)", x.count(-1), Expect.BEYOND);
        Expect.due("count(12)", x.count(12), Expect.BEYOND);
        x.seed(-1000000001);
        Expect.due("z may look like an ERROR", x.count(11), -1000000001);
        Expect.due("told(1)", x.told(1), 2);
    }

    private static void promise41Told() {
        OldLight x = new OldLight();
        for (int k = 1; k <= 5; k++) {
            Expect.due("new: told(" + k + ")", x.told(k), 0);
        }
        x.bay(0);
        x.restore();
        x.restore();
        x.sheet(0, 8, -1);
        x.sheet(0, 8, -1);
        x.sheet(0, 8, -1);
        for (int i = 0; i < 24; i++) {
            x.tell(0);
        }
        x.ship(0, 0, 0);
        for (int i = 0; i < 5; i++) {
            x.as(0, 1);
        }
        for (int k = 1; k <= 5; k++) {
            Expect.due("told(" + k + ")", x.told(k), k);
        }
        Expect.due("told(0)", x.told(0), Expect.BEYOND);
        Expect.due("told(6)", x.told(6), Expect.BEYOND);
        Expect.due("told(-1)", x.told(-1), Expect.BEYOND);
        Expect.due("counted, too", x.told(1), 4);
    }
}
