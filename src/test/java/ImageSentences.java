/** Sentences on images, numbers that wait, and what is told: of promises 36 to 41. */
final class ImageSentences extends Sentence {
    static void all() {
        image();
        imageKeepsEach();
        imageLeavesOut();
        restore();
        restoreOnceMore();
        restoreNone();
        tell();
        tellFull();
        check();
        checkPlaces();
        count();
        countBeyond();
        told();
        toldBeyond();
    }

    // ---- Promise 36

    private static void image() {
        of(36, "All (but SHEETS, THE TRACE, what told() tells, and how often this was done) is kept as an IMAGE, in place of one"
            + " ahead: how often that was done.");
        OldLight x = new OldLight();
        for (int i = 1; i <= 20; i++) {
            due("image()", x.image(), i);
        }
        x.set(0, 1);
        due("in place of one ahead", x.image(), 21);
        x.set(0, 2);
        x.restore();
        due("YEAR", x.count(3), 1);
        due("one more, restored or not", x.image(), 22);
        OldLight y = new OldLight();
        y.image();
        OldLight z = Made.sevenShips();
        String was = Shown.kept(z);
        due("of a full one", z.image(), 2);
        same("nothing is otherwise", Shown.kept(z), was);
        due("of a new one, as it is", y.restore(), 0);
        same("the state", Shown.kept(y), Shown.kept(new OldLight()));
    }

    /** Each thing that a call may change is as it was once the IMAGE is restored. */
    private static void imageKeepsEach() {
        of(36, "All (but SHEETS, THE TRACE, what told() tells, and how often this was done) is kept as an IMAGE");
        change("BED", x -> x.lay(5, 0, 9));
        change("a ROCK from", x -> x.lay(0, 1, 0));
        change("a ROCK till", x -> x.lay(0, 2, 999));
        change("YEAR", x -> x.set(0, 999));
        change("BACK", x -> x.set(1, 99));
        change("BEAM", x -> x.set(2, 63));
        change("SHIPS", x -> x.ship(69, 9, 5));
        change("DRAFT", x -> x.change(2, 0, 9));
        change("AT", x -> x.change(2, 1, 5));
        change("LOST", x -> x.change(2, 2, 1));
        change("LOST no more", x -> x.change(1, 2, 0));
        change("KIND", x -> x.become(2, 67));
        change("m", x -> x.become(2, 21));
        change("THE TAPE", x -> x.feed('0', 1));
        change("DEPTH's TEXT", x -> x.text(0));
        change("ELSE's TEXT", x -> Expect.text(x, 1, "9-h+6*m-d*7") + x.text(1) + Expect.text(x, 1, "d>m"));
        change("HOUR", x -> x.hours(1));
        change("draws", x -> x.loose(3));
        change("z", x -> x.seed(-1));
        change("numbers", x -> x.tell(7));
        change("no numbers", x -> x.check());
        change("BEDS", x -> x.beds(1));
        OldLight x = new OldLight();
        x.ship(20, 5, 1);
        x.tell(1);
        x.tell(1);
        x.image();
        x.check();
        x.tell(5);
        x.tell(6);
        x.restore();
        due("the numbers that waited", x.count(9), 2);
        due("they are what they were", x.check(), 0);
        x.restore();
        due("and wait again", x.check(), 0);
        OldLight y = new OldLight();
        y.bay(3);
        y.lay(2, 0, 9);
        y.set(2, 5);
        y.image();
        y.bay(8);
        y.lay(7, 0, 1);
        y.restore();
        due("CELLS", y.count(0), 3);
        due("BED", y.ofCell(2, 0), 9);
        due("BEAM", y.count(5), 5);
        due("none more", y.ofCell(3, 0), BEYOND);
    }

    private static void change(String what, java.util.function.ToIntFunction<OldLight> act) {
        OldLight x = Made.laden();
        x.image();
        OldLight other = Made.laden();
        other.image();
        act.applyAsInt(x);
        holds(what + " is otherwise", !whole(changed(act)).equals(whole(Made.laden())));
        due(what + " restored", x.restore(), other.count(2));
        same(what + " is as it was", whole(x), whole(other));
    }

    private static OldLight changed(java.util.function.ToIntFunction<OldLight> act) {
        OldLight x = Made.laden();
        act.applyAsInt(x);
        return x;
    }

    /** What an IMAGE keeps, THE TAPE's bytes and the numbers that wait, too; the object is of no more use then. */
    private static String whole(OldLight x) {
        String kept = Shown.kept(x);
        int checked = x.check();
        return kept + " " + checked + " " + x.text(0) + " " + x.law(0, 1, 2, 3);
    }

    private static void imageLeavesOut() {
        of(36, "but SHEETS, THE TRACE, what told() tells, and how often this was done");
        OldLight x = Made.laden();
        x.image();
        x.put(0, 0, 9);
        x.sheet(1, 0, 0);
        x.sheet(2, 8, 2);
        Made.row(x, 3, 32, "77");
        x.voice(0, 0, 0);
        x.bay(0);
        x.ship(0, 0, 9);
        row("told", k -> x.told(k + 1), 3, 2, 3, 4, 5);
        x.image();
        x.restore();
        row("told, as it was", k -> x.told(k + 1), 3, 2, 3, 4, 5);
        due("BODIES", x.count(10), 2);
        row("THE TRACE", x::trace, 20, 10, NONE);
        due("SHEET 0", x.beds(0), 3);
        due("SHEET 0, its first", x.ofCell(0, 0), 9);
        due("SHEET 1", x.beds(1), NONE);
        due("SHEET 2", x.beds(2), 2);
        due("SHEET 3", x.put(3, 1, 7), 1);
        due("how often", x.image(), 4);
        OldLight y = new OldLight();
        y.image();
        y.ship(0, 0, 0);
        y.voice(0, 3, 0);
        y.restore();
        due("no SHIPS", y.count(1), 0);
        row("THE TRACE of one that is gone", y::trace, 13, 11, 10, 12, NONE);
    }

    // ---- Promise 37

    private static void restore() {
        of(37, "All is as the IMAGE has it, which stays: HOUR.");
        OldLight x = new OldLight();
        x.image();
        x.hours(60);
        due("HOUR 0", x.restore(), 0);
        due("HOUR", x.count(2), 0);
        OldLight y = Made.atHour(9999);
        y.image();
        due("HOUR 9999", y.restore(), 9999);
        due("none more", y.hours(1), STATE);
        OldLight z = Made.atHour(9998);
        z.image();
        due("the last", z.hours(1), z.count(6));
        due("HOUR 9998", z.restore(), 9998);
        due("the last again", z.hours(1), z.count(6));
    }

    private static void restoreOnceMore() {
        of(37, "All is as the IMAGE has it, which stays");
        OldLight x = Made.laden();
        x.image();
        String kept = Shown.kept(x);
        for (int i = 0; i < 3; i++) {
            x.lay(i, 0, 8);
            x.set(1, 10 + i);
            x.change(i, 1, 1);
            x.become(i, 3);
            x.ship(0, 0, 0);
            x.text(0);
            x.tell(4);
            x.loose(5);
            due("restore()", x.restore(), 3);
            same("the state", Shown.kept(x), kept);
        }
        due("at once again", x.restore(), 3);
        due("bytes are what they were", x.text(0), 1);
        x.restore();
        due("bytes", x.count(8), 3);
        due("how often an IMAGE was made", x.image(), 3);
    }

    private static void restoreNone() {
        of(37, "NONE: there is none.");
        refused(Made::fresh, "restore()", OldLight::restore, NONE);
        refused(() -> Made.silted(new int[] {69, 9, 7}), "restore()", OldLight::restore, NONE);
        OldLight x = new OldLight();
        due("none yet", x.restore(), NONE);
        x.image();
        due("one", x.restore(), 0);
        due("it stays", x.restore(), 0);
    }

    // ---- Promise 38

    private static void tell() {
        of(38, "One more number waits: how many.");
        OldLight x = new OldLight();
        int[] numbers = {0, -1, LEAST, GREATEST, BEYOND, 1};
        for (int i = 0; i < 20; i++) {
            due("tell", x.tell(numbers[i % numbers.length]), i + 1);
            due("they wait", x.count(9), i + 1);
        }
        x.check();
        due("the first again", x.tell(5), 1);
    }

    private static void tellFull() {
        of(38, "FULL: 20 wait.");
        for (int v : new int[] {0, LEAST, GREATEST}) {
            refused(() -> Made.withNumbers(20), "tell(" + v + ")", x -> x.tell(v), FULL);
        }
        due("the twentieth", Made.withNumbers(19).tell(0), 20);
        OldLight x = new OldLight();
        for (int i = 0; i < 20; i++) {
            x.tell(0);
        }
        due("one more", x.tell(1), FULL);
        due("it is none of them", x.check(), 0);
    }

    // ---- Promise 39

    private static void check() {
        of(39, "The numbers that wait (none do then) are how many SHIPS are AT 0 behind 1, 2, .. HOURS: 0;");
        OldLight x = new OldLight();
        due("no numbers, no SHIPS", x.check(), 0);
        for (int i = 0; i < 7; i++) {
            x.ship(20, 5, i);
        }
        due("no numbers", x.check(), 0);
        int[] due = {2, 3, 4, 5, 6, 7, 7, 7, 7, 7, 7, 7, 7, 7, 7, 7, 7, 7, 7, 7};
        for (int many = 1; many <= 20; many++) {
            for (int i = 0; i < many; i++) {
                x.tell(due[i]);
            }
            due(many + " numbers", x.check(), 0);
            due("none wait", x.count(9), 0);
        }
        due("HOUR", x.count(2), 0);
        due("AT 0 as it was", x.count(6), 1);
        OldLight y = Made.silted(new int[] {0, 4, 1}, new int[] {0, 9, 0});
        y.change(1, 2, 1);
        y.tell(2);
        y.tell(2);
        due("LOST AT 0, one now, one then", y.check(), 0);
        OldLight z = Made.atHour(9999);
        z.tell(1);
        z.tell(1);
        due("beyond HOUR 9999", z.check(), 0);
    }

    private static void checkPlaces() {
        of(39, "else 1 and the place (from 0) of the first that isn't so.");
        for (int place = 0; place < 20; place++) {
            for (int wrong : new int[] {0, 2, -1, LEAST, GREATEST}) {
                OldLight x = new OldLight();
                x.ship(20, 5, 0);
                for (int i = 0; i < 20; i++) {
                    x.tell(i < place ? 1 : wrong);
                }
                due(wrong + " from place " + place + " on", x.check(), 1 + place);
                due("none wait", x.count(9), 0);
                due("asked once more", x.check(), 0);
            }
        }
        OldLight y = new OldLight();
        y.ship(20, 5, 1);
        y.tell(0);
        due("how many there are now is none of them", y.check(), 1);
        y.tell(1);
        y.tell(0);
        due("the second", y.check(), 2);
        row("no ERROR: told", k -> y.told(k + 1), 0, 0, 0, 0, 0);
    }

    // ---- Promise 40

    private static void count() {
        of(40, "0 CELLS, 1 SHIPS, 2 HOUR, 3 YEAR, 4 BACK, 5 BEAM, 6 how many SHIPS are AT 0, 7 how many are LOST, 8 bytes of THE"
            + " TAPE, 9 numbers that wait, 10 BODIES in THE TRACE, 11 z (any number).");
        row("new", new OldLight()::count, 8, 0, 0, 200, 0, 0, 0, 0, 0, 0, 0, 1, BEYOND);
        OldLight x = new OldLight();
        x.set(0, 999);
        x.set(1, 99);
        x.set(2, 255);
        Expect.law(x, 1, "0");
        for (int i = 0; i < 7; i++) {
            x.ship(60 + i, 9, 0);
            x.change(i, 2, 1);
        }
        x.hours(60);
        Expect.feed(x, "1".repeat(50));
        for (int i = 0; i < 20; i++) {
            x.tell(i);
        }
        x.voice(6, 3, 0);
        x.seed(LEAST);
        row("all full", x::count, 8, 7, 60, 999, 99, 255, 7, 7, 50, 20, 9, LEAST, BEYOND);
        OldLight y = new OldLight();
        y.bay(3);
        y.set(0, 0);
        y.ship(0, 0, 0);
        y.ship(0, 0, 1);
        y.change(1, 2, 1);
        y.feed(0, 1);
        y.tell(0);
        y.voice(0, 0, 0);
        y.seed(0);
        row("one of each", y::count, 3, 2, 0, 0, 0, 0, 1, 1, 1, 1, 1, 0, BEYOND);
        for (int z : new int[] {LEAST, GREATEST, LOW, BEYOND, NONE, STATE, FULL, KIND}) {
            OldLight w = new OldLight();
            w.seed(z);
            due("z", w.count(11), z);
            row("no ERROR: told", k -> w.told(k + 1), 0, 0, 0, 0, 0);
        }
    }

    private static void countBeyond() {
        of(40, "BEYOND.");
        bounds(Made::laden, "count(%d)", 0, 11, OldLight::count);
        bounds(Made::fresh, "count(%d)", 0, 11, OldLight::count);
    }

    // ---- Promise 41

    private static void told() {
        of(41, "How many acts have answered an ERROR LOW - k (k 1 .. 5);");
        OldLight x = new OldLight();
        x.ship(0, 0, 0);
        for (int i = 0; i < 20; i++) {
            x.tell(0);
        }
        int[] due = new int[6];
        for (int i = 0; i < 40; i++) {
            int k = 1 + i * i % 5;
            int answer = k == 1 ? x.set(0, 1000) : k == 2 ? x.restore() : k == 3 ? x.bay(3) : k == 4 ? x.tell(0) : x.as(0, 1);
            due("an ERROR", answer, LOW - k);
            due[k]++;
            for (int j = 1; j <= 5; j++) {
                due("told(" + j + ")", x.told(j), due[j]);
            }
        }
        int[] others = {x.text(0), x.seed(BEYOND), x.voice(0, 0, NONE), x.seed(0), x.beds(0)};
        due("what only looks like one", others[2], NONE);
        row("told", k -> x.told(k + 1), due[1], due[2] + 1, due[3], due[4], due[5]);
    }

    private static void toldBeyond() {
        of(41, "BEYOND: another k (counted, too).");
        bounds(Made::laden, "told(%d)", 1, 5, OldLight::told);
        OldLight x = new OldLight();
        int many = 0;
        for (int k : outside(1, 5)) {
            due("told(" + k + ")", x.told(k), BEYOND);
            many++;
            due("counted", x.told(1), many);
        }
        refused(Made::laden, "told(0)", y -> y.told(0), BEYOND);
        refused(Made::laden, "told(6)", y -> y.told(6), BEYOND);
    }
}
