/** Sentences on TEXTS: of the Terms, and of promises 11 to 13. */
final class TextSentences extends Sentence {
    static void all() {
        either();
        both();
        compared();
        sums();
        products();
        singles();
        numbers();
        blanks();
        open();
        tapeOfFifty();
        intsThatWrap();
        quotientsAndRests();
        truths();
        allIsWorkedOut();
        faultPlace();
        faultAtTheEnd();
        faultOfEachByte();
        depthUse();
        elseUse();
        feed();
        feedOrder();
        feedBeyond();
        feedFull();
        text();
        textBeyond();
        textFault();
        law();
        lawBeyond();
    }

    /** What a TEXT gives for c, y, b of 2, 3, 5: it is one. */
    private static void gives(String text, int want) {
        OldLight x = new OldLight();
        due("text " + text, Expect.text(x, 0, text), 1);
        due("what " + text + " gives", x.law(0, 2, 3, 5), want);
    }

    private static void fault(String text, int place) {
        OldLight x = new OldLight();
        due("text " + text, Expect.text(x, 0, text), -10 - place);
        due("behind " + text + " no TEXT", x.law(0, 1, 1, 17), 17);
    }

    // ---- the Terms

    private static void either() {
        term("TEXTS are read from THE TAPE (bytes, at most 50): T: A { | A }.");
        gives("0|0", 0);
        gives("0|7", 1);
        gives("7|0", 1);
        gives("0|0|0|0|7", 1);
        gives("1&0|1", 1);
        gives("1|0&0", 1);
        gives("3|0+1", 1);
        fault("|1", 0);
        fault("1|", 2);
        fault("1||1", 2);
        fault("1|1|", 4);
    }

    private static void both() {
        term("A: B { & B }.");
        gives("7&9", 1);
        gives("7&0", 0);
        gives("0&7", 0);
        gives("1&1&1&0", 0);
        gives("1=1&2=2", 1);
        gives("4&5-5", 0);
        fault("&1", 0);
        fault("1&", 2);
        fault("1&&1", 2);
        fault("1&|1", 2);
    }

    private static void compared() {
        term("B: S, or S < S, S = S, S > S.");
        int[][] pairs = {{1, 2}, {2, 2}, {2, 1}, {0, 0}};
        for (int[] a : pairs) {
            gives(a[0] + "<" + a[1], a[0] < a[1] ? 1 : 0);
            gives(a[0] + "=" + a[1], a[0] == a[1] ? 1 : 0);
            gives(a[0] + ">" + a[1], a[0] > a[1] ? 1 : 0);
        }
        gives("1+1=2", 1);
        gives("1<2+5", 1);
        gives("(1<2)<2", 1);
        gives("1<2&2<3", 1);
        for (String sign : new String[] {"<", "=", ">"}) {
            fault("1" + sign, 2);
            fault(sign + "1", 0);
            fault("1" + sign + "2<3", 3);
            fault("1" + sign + "2=3", 3);
            fault("1" + sign + "2>3", 3);
            fault("1" + sign + "=2", 2);
            fault("(1" + sign + "2" + sign, 4);
        }
    }

    private static void sums() {
        term("S: P { + P, - P }.");
        gives("7", 7);
        gives("9-3-2", 4);
        gives("9-3+2", 8);
        gives("9+3-2-1+4", 13);
        gives("9-2*3", 3);
        fault("+1", 0);
        fault("-1", 0);
        fault("1+", 2);
        fault("1-", 2);
        fault("1+-1", 2);
        fault("1--1", 2);
        fault("(-1)", 1);
    }

    private static void products() {
        term("P: Q { * Q, / Q, % Q }.");
        gives("2*3*3", 18);
        gives("12/4/3", 1);
        gives("17%7%2", 1);
        gives("7/2*2", 6);
        gives("7*2/4", 3);
        gives("9%5*3", 12);
        gives("2*7%4", 2);
        for (String sign : new String[] {"*", "/", "%"}) {
            fault(sign + "1", 0);
            fault("1" + sign, 2);
            fault("1" + sign + sign + "1", 2);
            fault("1" + sign + "-1", 2);
        }
    }

    private static void singles() {
        term("Q: a NUMBER of 1 to 4 digits, a NAME, ! Q, ( T ).");
        gives("c", 2);
        gives("y", 3);
        gives("b", 5);
        gives("!c", 0);
        gives("!0", 1);
        gives("!!c", 1);
        gives("!0+1", 2);
        gives("!0*7", 7);
        gives("(0|1&2<3+4*5)", 1);
        gives("(((b)))", 5);
        gives("!(0)", 1);
        fault("", 0);
        fault("!", 1);
        fault("()", 1);
        fault(")", 0);
        fault("(1", 2);
        fault("(1))", 3);
        fault("1)", 1);
        fault("1(2)", 1);
        fault("1!2", 1);
        fault("(1)(2)", 3);
        fault("(1)2", 3);
        fault("cy", 1);
        fault("c1", 1);
        fault("1c", 1);
        for (String name : new String[] {"d", "m", "h", "C", "Y", "B", "a", "x", "z"}) {
            fault(name, 0);
            fault("1+" + name, 2);
        }
    }

    private static void numbers() {
        term("a NUMBER of 1 to 4 digits");
        gives("0", 0);
        gives("9", 9);
        gives("10", 10);
        gives("019", 19);
        gives("0019", 19);
        gives("999-989", 10);
        gives("9999-9998", 1);
        gives("0000", 0);
        fault("00000", 4);
        fault("12345", 4);
        fault("1+12345", 6);
        fault("(12345)", 5);
        fault("!10000", 5);
        fault("1234567", 4);
    }

    private static void blanks() {
        term("No blanks.");
        String text = "(b+10)*c|!y";
        for (int place = 0; place <= text.length(); place++) {
            for (char blank : new char[] {' ', '\t', '\n', 0, 255, 160}) {
                String with = text.substring(0, place) + blank + text.substring(place);
                due("a blank " + (int) blank + " at " + place, Expect.text(new OldLight(), 0, with), -10 - place);
            }
        }
    }

    private static void open() {
        term("At most 5 of ! and ( are open at once.");
        gives("!!!!!b", 0);
        gives("(((((b)))))", 5);
        gives("(!(!(b)))", 1);
        gives("!(!(!b))", 0);
        gives("(((((b)))))+(((((c)))))", 7);
        gives("!!!!!b+!!!!!0", 1);
        gives("((((!b+!c+!0))))", 1);
        gives("((((b)+(c))))", 7);
        gives("!((((b))))|!!!!!0&!(!(!b))", 0);
        fault("!!!!!!b", 5);
        fault("((((((b))))))", 5);
        fault("!(!(!(b)))", 5);
        fault("(!(!(!b)))", 5);
        fault("((((!b+!!c))))", 8);
        fault("((((!(b)))))", 5);
        fault("(((((b)))))+((((((b", 17);
        fault("!!!!!b|!!!!!!b", 12);
        fault("(".repeat(50), 5);
        fault("!".repeat(50), 5);
    }

    private static void tapeOfFifty() {
        term("TEXTS are read from THE TAPE (bytes, at most 50)");
        gives("1+".repeat(24) + "b-", 0, 50);
        gives("1-".repeat(24) + "11", 0, -1);
        gives("0+".repeat(24) + "10", 10, -1);
        gives("0+".repeat(24) + "7", 7, -1);
        gives("0|".repeat(24) + "0b", 0, 49);
        gives("0*".repeat(24) + "b*", 0, 50);
        gives("((((!!(((!" + "b".repeat(40), 0, 5);
        OldLight x = new OldLight();
        due("50 bytes", Expect.feed(x, "0+".repeat(24) + "10"), 50);
        due("one more", x.feed('0', 1), FULL);
        due("a TEXT of 50", x.text(0), 1);
        due("what it gives", x.law(0, 0, 0, 0), 10);
    }

    private static void gives(String text, int want, int fault) {
        OldLight x = new OldLight();
        due("text " + text, Expect.text(x, 0, text), fault < 0 ? 1 : -10 - fault);
        due("what it gives", x.law(0, 2, 3, 0), want);
    }

    private static OldLight with(String text) {
        OldLight x = new OldLight();
        Expect.text(x, 0, text);
        return x;
    }

    private static void intsThatWrap() {
        term("Ints that wrap;");
        due("the greatest and 1", with("(c+1)=y").law(0, GREATEST, LEAST, 0), 1);
        due("the greatest and 1, held", with("c+1").law(0, GREATEST, 0, 0), 0);
        due("the least less 1", with("(c-1)=y").law(0, LEAST, GREATEST, 0), 1);
        due("the least less 1, held", with("c-1").law(0, LEAST, 0, 0), 19);
        due("the least from 0", with("(0-c)=c").law(0, LEAST, 0, 0), 1);
        due("twice the greatest", with("c*2+7").law(0, GREATEST, 0, 0), 5);
        due("a product", with("c*c=y").law(0, 46341, -2147479015, 0), 1);
        due("the least by -1", with("c/y=c").law(0, LEAST, -1, 0), 1);
        due("the rest of the least by -1", with("c%y").law(0, LEAST, -1, 0), 0);
        due("the least is less than 1", with("c<y").law(0, LEAST, 1, 0), 1);
        due("the least is not more than 1", with("c>y").law(0, LEAST, 1, 0), 0);
        due("the greatest is more than -1", with("c>y").law(0, GREATEST, -1, 0), 1);
        due("the greatest is not less than -1", with("c<y").law(0, GREATEST, -1, 0), 0);
        due("the least is not 0", with("c=y").law(0, LEAST, 0, 0), 0);
        due("9999 three times", with("9999*9999*9999=c").law(0, 9999 * 9999 * 9999, 0, 0), 1);
        due("the greatest times the greatest", with("c*c").law(0, GREATEST, 0, 0), 1);
    }

    private static void quotientsAndRests() {
        term("/ cut, % the rest that it leaves, both by 0 are 0;");
        int[] numbers = {7, -7, 2, -2, 1, -1, 3, 0, LEAST, GREATEST};
        for (int a : numbers) {
            for (int b : numbers) {
                long quotient = b == 0 ? 0 : (int) ((long) a / b);
                long rest = b == 0 ? 0 : (long) a % b;
                due(a + "/" + b, with("c/y=b").law(0, a, b, (int) quotient), 1);
                due(a + "%" + b, with("c%y=b").law(0, a, b, (int) rest), 1);
            }
        }
        due("5/0", with("5/0").law(0, 0, 0, 9), 0);
        due("5%0", with("5%0").law(0, 0, 0, 9), 0);
        due("0/0", with("0/0+3").law(0, 0, 0, 9), 3);
        due("0%0", with("0%0+3").law(0, 0, 0, 9), 3);
    }

    private static void truths() {
        term("| & < = > ! are 1 or 0, what is not 0 being true;");
        int[] numbers = {0, 1, -1, 2, LEAST, GREATEST};
        for (int a : numbers) {
            due("!" + a, with("3+!c").law(0, a, 0, 0), a == 0 ? 4 : 3);
            for (int b : numbers) {
                due(a + "|" + b, with("3+(c|y)").law(0, a, b, 0), a != 0 || b != 0 ? 4 : 3);
                due(a + "&" + b, with("3+(c&y)").law(0, a, b, 0), a != 0 && b != 0 ? 4 : 3);
                due(a + "<" + b, with("3+(c<y)").law(0, a, b, 0), a < b ? 4 : 3);
                due(a + "=" + b, with("3+(c=y)").law(0, a, b, 0), a == b ? 4 : 3);
                due(a + ">" + b, with("3+(c>y)").law(0, a, b, 0), a > b ? 4 : 3);
            }
        }
    }

    /** What is not asked for is worked out, too: it does no harm, nor does it change what is. */
    private static void allIsWorkedOut() {
        term("all is worked out.");
        due("behind a true one", with("1|1/0").law(0, 0, 0, 0), 1);
        due("behind a false one", with("0&1%0").law(0, 0, 0, 0), 0);
        due("behind a false one, then a true one", with("0&1/0|1").law(0, 0, 0, 0), 1);
        due("a quotient by 0 within", with("7+3/(5/0)").law(0, 0, 0, 0), 7);
        due("many levels", with("(1+(1+(1+(1+(1+1)))))").law(0, 0, 0, 0), 6);
        due("many that wait", with("1|1&1<1+1*(1|1&1<1+1*(1|1&1<1+1*(1|1&1<1+1*9)))").law(0, 0, 0, 0), 1);
    }

    private static void faultPlace() {
        term("FAULT: the place of the first byte with which no TEXT goes on;");
        fault("x+1", 0);
        fault("1+x", 2);
        fault("b+(c*y))", 7);
        fault("bb", 1);
        fault("1+2+)3+4", 4);
        fault("b$$$$", 1);
        fault("5.", 1);
        fault("0+".repeat(24) + "0)", 49);
        fault("1<2<", 3);
        fault("(1<2)<(3=4)<5", 11);
    }

    private static void faultAtTheEnd() {
        term("how many there are, if it ends too early.");
        String[] texts = {"", "(", "!", "b+", "b-", "b*", "b/", "b%", "b<", "b=", "b>", "b&", "b|", "(b", "((b)", "(b+", "!(", "b+(1",
            "(((((b))))", "0+".repeat(25)};
        for (String text : texts) {
            fault(text, text.length());
        }
    }

    /** Each byte at the beginning, behind a NAME, behind a sign, within ( ) and behind a whole NUMBER. */
    private static void faultOfEachByte() {
        term("FAULT: the place of the first byte with which no TEXT goes on; how many there are, if it ends too early.");
        String[] ahead = {"", "b", "b+", "(b", "1234", "b<b", "!"};
        String[] goesOn = {"0123456789cyb!(", "|&<=>+-*/%", "0123456789cyb!(", "|&<=>+-*/%)", "|&<=>+-*/%", "|&+-*/%", "0123456789cyb!("};
        String[] whole = {"0123456789cyb", "", "0123456789cyb", ")", "", "", "0123456789cyb"};
        for (int i = 0; i < ahead.length; i++) {
            for (char sign = 0; sign < 256; sign++) {
                boolean may = goesOn[i].indexOf(sign) >= 0;
                boolean ends = whole[i].indexOf(sign) >= 0;
                int want = ends ? 1 : -10 - ahead[i].length() - (may ? 1 : 0);
                due("byte " + (int) sign + " behind " + ahead[i], Expect.text(new OldLight(), 0, ahead[i] + sign), want);
            }
        }
    }

    private static void depthUse() {
        term("USES: 0 DEPTH, NAMES c the CELL, y the YEAR, b BED; held within 0 to 19; without a TEXT b.");
        OldLight x = new OldLight();
        due("without a TEXT", x.law(0, 1, 2, 3), 3);
        due("without a TEXT, 19", x.law(0, 1, 2, 19), 19);
        due("without a TEXT, 0", x.law(0, 1, 2, 0), 0);
        Expect.law(x, 0, "c*100+y*10+b-110");
        due("c, y, b", x.law(0, 1, 2, 3), 13);
        Expect.law(x, 0, "b");
        int[][] held = {{-1, 0}, {0, 0}, {1, 1}, {18, 18}, {19, 19}, {20, 19}, {LEAST, 0}, {GREATEST, 19}};
        for (int[] a : held) {
            due("b " + a[0], x.law(0, 5, 5, a[0]), a[1]);
        }
        Expect.law(x, 0, "9+b*2");
        x.lay(2, 0, 9);
        due("a DEPTH is held", x.ofCell(2, 3), 19);
        Expect.law(x, 0, "b-9");
        due("to 0, too", x.ofCell(1, 3), 0);
        for (String name : new String[] {"d", "m", "h"}) {
            due("no NAME of it", Expect.text(x, 0, name), -10);
        }
    }

    private static void elseUse() {
        term("1 ELSE, NAMES d DRAFT, m m, h HOUR; held within 0 to 1; without a TEXT 0.");
        OldLight x = new OldLight();
        due("without a TEXT", x.law(1, 1, 1, 1), 0);
        due("without a TEXT", x.law(1, GREATEST, GREATEST, GREATEST), 0);
        Expect.law(x, 1, "d*100+m*10+h-122");
        due("d, m, h", x.law(1, 1, 2, 3), 1);
        due("d, m, h", x.law(1, 1, 2, 2), 0);
        Expect.law(x, 1, "h");
        int[][] held = {{-1, 0}, {0, 0}, {1, 1}, {2, 1}, {LEAST, 0}, {GREATEST, 1}};
        for (int[] a : held) {
            due("h " + a[0], x.law(1, 5, 5, a[0]), a[1]);
        }
        for (String name : new String[] {"c", "y", "b"}) {
            due("no NAME of it", Expect.text(x, 1, name), -10);
        }
        Expect.law(x, 1, "2");
        x.ship(0, 9, 3);
        x.hours(1);
        due("2 is held to 1: it goes out", x.ofShip(0, 3), 4);
        Expect.law(x, 1, "0-5");
        x.hours(1);
        due("-5 is held to 0: it waits", x.ofShip(0, 3), 4);
    }

    // ---- Promise 11

    private static void feed() {
        of(11, "The n lowest bytes (1 .. 8) of a word, the lowest first, come to THE TAPE: how many there are.");
        for (int n = 1; n <= 8; n++) {
            OldLight x = new OldLight();
            due("feed of " + n, x.feed(-1L, n), n);
            due("bytes", x.count(8), n);
            due("once more", x.feed(0L, n), 2 * n);
        }
        long[] words = {Long.MIN_VALUE, Long.MAX_VALUE, 0, 0x8080808080808080L};
        for (long word : words) {
            OldLight x = new OldLight();
            due("feed(" + word + ", 8)", x.feed(word, 8), 8);
            due("no TEXT", x.text(0), -10);
        }
    }

    private static void feedOrder() {
        of(11, "The n lowest bytes (1 .. 8) of a word, the lowest first,");
        String digits = "9*0+1+5+8-3-2";
        OldLight x = new OldLight();
        Expect.feed(x, digits);
        due("text", x.text(0), 1);
        due("what it gives", x.law(0, 0, 0, 0), 9);
        // '9', '-', '2' and '7', '7', '7' above them.
        x.feed(0x373737322D39L, 3);
        due("three of them", x.text(0), 1);
        due("what it gives", x.law(0, 0, 0, 0), 7);
        x.feed(0x312B62L, 1);
        due("the lowest alone", x.text(0), 1);
        due("what it gives", x.law(0, 0, 0, 8), 8);
        x.feed(0x322B312B312B3131L, 8);
        due("eight of them", x.text(0), 1);
        due("what it gives", x.law(0, 0, 0, 0), 15);
        // '1', '+', '1' and a byte of 255: the fourth is told as it is.
        x.feed(0xFF312B31L, 4);
        due("a byte of 255", x.text(0), -13);
        x.feed(0xB1L, 1);
        due("a byte of 128 and '1'", x.text(0), -10);
    }

    private static void feedBeyond() {
        of(11, "BEYOND.");
        bounds(Made::fresh, "feed(0, %d)", 1, 8, (x, v) -> x.feed(0x3131313131313131L, v));
        bounds(Made::laden, "feed(0, %d)", 1, 8, (x, v) -> x.feed(0x3131313131313131L, v));
        refused(Made::laden, "feed(0, 0)", x -> x.feed(0L, 0), BEYOND);
    }

    private static void feedFull() {
        of(11, "FULL.");
        for (int n = 1; n <= 8; n++) {
            int many = n;
            for (int there = 42; there <= 50; there++) {
                int fed = there;
                if (there + n <= 50) {
                    due("feed of " + n + " to " + there, Made.withTape(there).feed(0L, n), there + n);
                } else {
                    refused(() -> Made.withTape(fed), "feed of " + n + " to " + there, x -> x.feed(-1L, many), FULL);
                }
            }
        }
        for (int n : outside(1, 8)) {
            refused(() -> Made.withTape(50), "feed(0, " + n + "), BEYOND first", x -> x.feed(0L, n), BEYOND);
        }
    }

    // ---- Promise 12

    private static void text() {
        of(12, "THE TAPE, which is empty then, is the TEXT of a USE (0, 1), in place of one ahead: 1.");
        OldLight x = new OldLight();
        due("the first", Expect.text(x, 0, "b+1"), 1);
        due("no bytes", x.count(8), 0);
        due("what it gives", x.law(0, 0, 0, 4), 5);
        due("in place of it", Expect.text(x, 0, "b*2"), 1);
        due("no bytes", x.count(8), 0);
        due("what it gives", x.law(0, 0, 0, 4), 8);
        due("the other USE", Expect.text(x, 1, "h"), 1);
        due("no bytes", x.count(8), 0);
        due("what it gives", x.law(1, 0, 0, 4), 1);
        due("USE 0 is as it was", x.law(0, 0, 0, 4), 8);
        due("a shorter one", Expect.text(x, 0, "1"), 1);
        due("what it gives", x.law(0, 0, 0, 4), 1);
        due("USE 1 is as it was", x.law(1, 0, 0, 4), 1);
        due("the longest", Expect.text(x, 1, "0+".repeat(24) + "!h"), 1);
        due("what it gives", x.law(1, 0, 0, 0), 1);
    }

    private static void textBeyond() {
        of(12, "BEYOND (THE TAPE stays).");
        for (int use : outside(0, 1)) {
            refused(Made::laden, "text(" + use + ")", x -> x.text(use), BEYOND);
            refused(Made::fresh, "text(" + use + ") of no bytes", x -> x.text(use), BEYOND);
            OldLight y = new OldLight();
            Expect.feed(y, "b+3");
            due("text(" + use + ")", y.text(use), BEYOND);
            due("bytes", y.count(8), 3);
            due("they are what they were", y.text(0), 1);
            due("what they give", y.law(0, 0, 0, 2), 5);
        }
        taken(Made::laden, "text(0)", x -> x.text(0));
        taken(Made::laden, "text(1)", x -> x.text(1));
    }

    private static void textFault() {
        of(12, "-10 less the FAULT (no ERROR; the one ahead stays; THE TAPE is empty, too).");
        String[] texts = {"", "x", "b+", "b+7)", "0+".repeat(25)};
        int[] faults = {0, 0, 2, 3, 50};
        for (int i = 0; i < texts.length; i++) {
            for (int use = 0; use <= 1; use++) {
                OldLight x = Made.laden();
                OldLight other = Made.laden();
                x.text(0);
                other.text(0);
                Expect.law(x, 1, "h>3");
                Expect.law(other, 1, "h>3");
                String text = use == 0 ? texts[i] : texts[i].replace('b', 'd');
                due("text(" + use + ") of " + text, Expect.text(x, use, text), -10 - faults[i]);
                due("THE TAPE is empty", x.count(8), 0);
                same("no ERROR, and the one ahead stays", Shown.all(x) + tolds(x), Shown.all(other) + tolds(other));
            }
        }
        OldLight y = new OldLight();
        Expect.text(y, 1, "d+");
        due("with none ahead there is none", y.law(1, 5, 5, 5), 0);
    }

    private static String tolds(OldLight x) {
        StringBuilder all = new StringBuilder();
        for (int k = 1; k <= 5; k++) {
            all.append(' ').append(x.told(k));
        }
        return all.toString();
    }

    // ---- Promise 13

    private static void law() {
        of(13, "What a USE gives with its NAMES in order as a, b, c.");
        OldLight x = new OldLight();
        Expect.law(x, 0, "(c=7)+(y=8)*2+(b=9)*4");
        int[] numbers = {7, 8, 9, 0, -1, LEAST, GREATEST};
        for (int a : numbers) {
            for (int b : numbers) {
                for (int c : new int[] {9, LEAST, GREATEST}) {
                    int want = (a == 7 ? 1 : 0) + (b == 8 ? 2 : 0) + (c == 9 ? 4 : 0);
                    due("law(0, " + a + ", " + b + ", " + c + ")", x.law(0, a, b, c), want);
                }
            }
        }
        OldLight y = new OldLight();
        Expect.law(y, 1, "d=7&m=8&h=9");
        due("law(1, 7, 8, 9)", y.law(1, 7, 8, 9), 1);
        due("law(1, 9, 8, 7)", y.law(1, 9, 8, 7), 0);
        due("law(1, 8, 7, 9)", y.law(1, 8, 7, 9), 0);
        due("law(0, 7, 8, 9), it has no TEXT", y.law(0, 7, 8, 9), 9);
        due("an ERROR's number is held", y.law(0, 0, 0, BEYOND), 0);
        due("a ROCK doesn't matter", rocky().law(0, 0, 200, 6), 6);
    }

    private static OldLight rocky() {
        OldLight x = new OldLight();
        x.lay(0, 1, 0);
        x.lay(0, 2, 999);
        return x;
    }

    private static void lawBeyond() {
        of(13, "BEYOND.");
        bounds(Made::fresh, "law(%d, 1, 2, 3)", 0, 1, (x, v) -> x.law(v, 1, 2, 3));
        bounds(Made::laden, "law(%d, 1, 2, 3)", 0, 1, (x, v) -> x.law(v, 1, 2, 3));
        int[] numbers = {LEAST, -1, 0, 1, GREATEST};
        for (int v : numbers) {
            taken(Made::laden, "law(0, " + v + ", 0, 0)", x -> x.law(0, v, 0, 0));
            taken(Made::laden, "law(1, 0, " + v + ", 0)", x -> x.law(1, 0, v, 0));
            taken(Made::laden, "law(0, 0, 0, " + v + ")", x -> x.law(0, 0, 0, v));
        }
    }
}
