import java.util.Random;

/** Promises 11 to 13: feed, text, law. */
public final class TextTest {
    public static void main(String[] args) {
        promise11Feed();
        promise11Bytes();
        promise12Text();
        promise12Faults();
        promise12Open();
        promise12PrefixesGoOn();
        promise13Law();
        promise13Held();
        promise13RandomTexts();
        Expect.end();
    }

    private static void promise11Feed() {
        OldLight x = new OldLight();
        int[] beyond = {0, -1, 9, Integer.MIN_VALUE, Integer.MAX_VALUE};
        for (int n : beyond) {
            Expect.due("feed(0, " + n + ")", x.feed(0, n), Expect.BEYOND);
        }
        for (int i = 1; i <= 6; i++) {
            Expect.due("feed(0, 8)", x.feed(0, 8), 8 * i);
        }
        Expect.due("feed(0, 3) at 48", x.feed(0, 3), Expect.FULL);
        Expect.due("feed(0, 9) at 48: BEYOND first", x.feed(0, 9), Expect.BEYOND);
        Expect.due("count(8)", x.count(8), 48);
        Expect.due("feed(0, 2) at 48", x.feed(0, 2), 50);
        Expect.due("feed(0, 1) at 50", x.feed(0, 1), Expect.FULL);
        Expect.due("feed(0, 0) at 50: BEYOND first", x.feed(0, 0), Expect.BEYOND);
    }

    private static void promise11Bytes() {
        OldLight x = new OldLight();
        // '1', '2', '3' and above them a byte that is not told.
        Expect.due("feed of three", x.feed(0x7F333231L, 3), 3);
        Expect.due("text(0)", x.text(0), 1);
        Expect.due("123 is held", x.law(0, 0, 0, 0), 19);
        Expect.due("feed of eight", x.feed(0x3938373635343331L, 8), 8);
        Expect.due("the lowest byte comes first: 13456789", x.text(0), -14);
        Expect.due("feed below 0", x.feed(-1L, 8), 8);
        Expect.due("bytes of 255", x.text(0), -10);
        // 'b', '+', byte 177 (128 more than '1'): it is no digit.
        x.feed(0xB12B62L, 3);
        Expect.due("byte 177 is no digit", x.text(0), -12);
    }

    private static void promise12Text() {
        OldLight x = new OldLight();
        Expect.feed(x, "b+1");
        Expect.due("text(2)", x.text(2), Expect.BEYOND);
        Expect.due("text(-1)", x.text(-1), Expect.BEYOND);
        Expect.due("THE TAPE stays", x.count(8), 3);
        Expect.due("text(0)", x.text(0), 1);
        Expect.due("THE TAPE is empty", x.count(8), 0);
        Expect.due("law(0, 0, 0, 4)", x.law(0, 0, 0, 4), 5);
        Expect.due("a FAULT", Expect.text(x, 0, "b+"), -12);
        Expect.due("THE TAPE is empty, too", x.count(8), 0);
        Expect.due("the one ahead stays", x.law(0, 0, 0, 4), 5);
        Expect.due("one in place of it", Expect.text(x, 0, "b+2"), 1);
        Expect.due("law(0, 0, 0, 4)", x.law(0, 0, 0, 4), 6);
        Expect.due("no bytes", x.text(0), -10);
        Expect.due("told(1): FAULTS are no ERRORS", x.told(1), 2);
        Expect.due("the other USE", Expect.text(x, 1, "d>m"), 1);
        Expect.due("law(1, 5, 4, 0)", x.law(1, 5, 4, 0), 1);
        Expect.due("law(0) is as it was", x.law(0, 0, 0, 4), 6);
    }

    private static void promise12Faults() {
        String[] texts = {"", "+", "b+", "b++b", "b b", " b", "bb", "12345", "1234b", "b<", "b<b<b", "b=b>b", "b<b=1",
            "(b<b)<b", "b<b&b<b|b=1", "()", "(b", "(b))", "b)", "!", "!!", "b!b", "b!", "-b", "b*-1", "b|", "b||b", "b&&b",
            "d", "m", "h", "1d", "12345+", "(12345)", "B", "b+(c*y", "b%0%", "b+*", "b/", "(b<b<b)", "(b|)", "7.5"};
        int[] faults = {0, 0, 2, 2, 1, 0, 1, 4, 4, 2, 3, 3, 3,
            -1, -1, 1, 2, 3, 1, 1, 2, 1, 1, 0, 2, 2, 2, 2,
            0, 0, 0, 1, 4, 5, 0, 6, 4, 2, 2, 4, 3, 1};
        for (int i = 0; i < texts.length; i++) {
            OldLight x = new OldLight();
            Expect.due("FAULT of " + texts[i], Expect.text(x, 0, texts[i]), faults[i] < 0 ? 1 : -10 - faults[i]);
        }
        String[] signs = {"|", "&", "<", "=", ">", "+", "-", "*", "/", "%", "&!", "|("};
        for (String sign : signs) {
            OldLight x = new OldLight();
            int ends = 1 + sign.length();
            Expect.due("FAULT of b" + sign, Expect.text(x, 0, "b" + sign), -10 - ends);
            Expect.due("FAULT of (b" + sign + ")", Expect.text(x, 0, "(b" + sign + ")"), -11 - ends);
            Expect.due("no TEXT yet", x.law(0, 0, 0, 7), 7);
        }
        String[] others = {"c", "y", "b", "d+m*h", "d+b"};
        int[] otherFaults = {0, 0, 0, -1, 2};
        for (int i = 0; i < others.length; i++) {
            OldLight x = new OldLight();
            int due = otherFaults[i] < 0 ? 1 : -10 - otherFaults[i];
            Expect.due("FAULT of " + others[i] + ", USE 1", Expect.text(x, 1, others[i]), due);
        }
    }

    private static void promise12Open() {
        String[] texts = {"!!!!!b", "!!!!!!b", "(((((b)))))", "((((((b", "!(!(!b))", "!(!(!(b", "!(!(b))", "!!!!!(b",
            "!!!!!b+!!!!!b", "(((((b)))))+(((((b)))))", "((((!b+!b))))", "((((!b+!!b", "((((!b+(b)+!(b", "(((((b)))+(((b",
            "((((((((((((((((((((((((((((((((((((((((((((((((((", "11111111111111111111111111111111111111111111111111"};
        int[] faults = {-1, 5, -1, 5, -1, 5, -1, 5,
            -1, -1, -1, 8, 12, 14,
            5, 4};
        for (int i = 0; i < texts.length; i++) {
            OldLight x = new OldLight();
            Expect.due("FAULT of " + texts[i], Expect.text(x, 0, texts[i]), faults[i] < 0 ? 1 : -10 - faults[i]);
        }
        OldLight y = new OldLight();
        Expect.due("a TEXT of 50 bytes", Expect.text(y, 0, "1+".repeat(24) + "11"), 1);
        Expect.due("its value is held", y.law(0, 0, 0, 0), 19);
        Expect.due("50 bytes that end too early", Expect.text(y, 0, "1+".repeat(25)), -60);
        Expect.due("49 bytes", Expect.text(y, 0, "0+".repeat(24) + "7"), 1);
        Expect.due("its value", y.law(0, 0, 0, 0), 7);
    }

    /** A FAULT's place is where the bytes ahead of it still went on, and with it no more. */
    private static void promise12PrefixesGoOn() {
        String signs = "bcy0179()()!!+-*/%<=>&|d ";
        Random random = new Random(41);
        int faulty = 0;
        for (int run = 0; run < 4000; run++) {
            StringBuilder text = new StringBuilder(written(random, 3, 12));
            text.setLength(Math.min(text.length(), 50));
            text.setCharAt(random.nextInt(text.length()), signs.charAt(random.nextInt(signs.length())));
            OldLight x = new OldLight();
            int answer = Expect.text(x, 0, text.toString());
            int fault = answer == 1 ? text.length() : -10 - answer;
            faulty += answer == 1 ? 0 : 1;
            Expect.holds("a place of " + text, fault >= 0 && fault <= text.length());
            for (int cut = 0; cut <= fault; cut++) {
                int ahead = Expect.text(x, 0, text.substring(0, cut));
                Expect.holds("ahead of the FAULT " + text.substring(0, cut), ahead == 1 || ahead == -10 - cut);
            }
            if (fault < text.length()) {
                Expect.due("with the FAULT " + text, Expect.text(x, 0, text.substring(0, fault + 1)), answer);
            }
        }
        Expect.holds("FAULTS were met", faulty > 500);
    }

    private static String written(Random random, int levels, int room) {
        if (levels == 0 || room < 4) {
            return random.nextBoolean() ? "b" : Integer.toString(random.nextInt(10000));
        }
        int form = random.nextInt(4);
        if (form == 0) {
            return "!" + written(random, levels - 1, room - 1);
        }
        if (form == 1) {
            return "(" + written(random, levels - 1, room - 2) + ")";
        }
        String sign = "+-*/%<=>&|".substring(random.nextInt(10)).substring(0, 1);
        return written(random, levels - 1, room / 2) + sign + written(random, levels - 1, room / 2);
    }

    private static void promise13Law() {
        OldLight x = new OldLight();
        String[] texts = {"c+10*y+100*b-310", "b-y-c", "b*y/c", "7/2*2", "17%7%2", "2+3*4", "(2+3)*2", "10-2*3", "1-8/3+10",
            "5/0", "5%0", "(0-7)/2+10", "(0-7)%4+10", "!5", "!0", "!!7", "!0+1", "3|0", "0|0", "2&4", "2&0", "0|2&0", "1|0&0",
            "1<2", "2<1", "2=2", "2>1", "1>2", "1<2+5", "1+1=2&3>2|0", "0007", "9999*9999*9999*9999>0", "9999*9999%19",
            "5", "3|4|0", "1&2&3", "0-5+7", "(1<2)+(2=2)*4", "12/4/3", "!(1&0)|0"};
        int[] due = {11, 0, 6, 6, 1, 14, 10, 4, 9,
            0, 0, 7, 7, 0, 1, 1, 2, 1, 0, 1, 0, 0, 1,
            1, 0, 1, 1, 0, 1, 1, 7, wraps(), 9999 * 9999 % 19,
            5, 1, 1, 2, 5, 1, 1};
        for (int i = 0; i < texts.length; i++) {
            Expect.due("text " + texts[i], Expect.text(x, 0, texts[i]), 1);
            Expect.due("value of " + texts[i], x.law(0, 1, 2, 3), due[i]);
        }
        Expect.due("text d*100+m*10+h=123", Expect.text(x, 1, "d*100+m*10+h=123"), 1);
        Expect.due("law(1, 1, 2, 3)", x.law(1, 1, 2, 3), 1);
        Expect.due("law(1, 3, 2, 1)", x.law(1, 3, 2, 1), 0);
        Expect.due("law(2, 0, 0, 0)", x.law(2, 0, 0, 0), Expect.BEYOND);
        Expect.due("law(-1, 0, 0, 0)", x.law(-1, 0, 0, 0), Expect.BEYOND);
        Expect.law(x, 0, "(c/y)=c");
        Expect.due("the least int by -1 wraps", x.law(0, Integer.MIN_VALUE, -1, 0), 1);
        Expect.law(x, 0, "c%y");
        Expect.due("the rest of the least int by -1", x.law(0, Integer.MIN_VALUE, -1, 0), 0);
    }

    private static int wraps() {
        return 9999 * 9999 * 9999 * 9999 > 0 ? 1 : 0;
    }

    private static void promise13Held() {
        OldLight x = new OldLight();
        Expect.due("without a TEXT b", x.law(0, 1, 2, 9), 9);
        Expect.due("without a TEXT b, held", x.law(0, 1, 2, 20), 19);
        Expect.due("without a TEXT b, held", x.law(0, 1, 2, Integer.MIN_VALUE), 0);
        Expect.due("without a TEXT 0", x.law(1, 1, 1, 1), 0);
        Expect.law(x, 0, "b");
        Expect.due("held within 19", x.law(0, 0, 0, 20), 19);
        Expect.due("19", x.law(0, 0, 0, 19), 19);
        Expect.due("held within 0", x.law(0, 0, 0, -1), 0);
        Expect.law(x, 1, "d");
        Expect.due("held within 1", x.law(1, 2, 0, 0), 1);
        Expect.due("held within 0", x.law(1, -2, 0, 0), 0);
    }

    private static void promise13RandomTexts() {
        Random random = new Random(13);
        for (int run = 0; run < 3000; run++) {
            int[] names = {random.nextInt(9) - 1, random.nextInt(1000), random.nextInt(10)};
            Grown grown = new Grown(random, names);
            grown.either(0);
            if (grown.text.length() > 50) {
                continue;
            }
            OldLight x = new OldLight();
            Expect.due("text " + grown.text, Expect.text(x, 0, grown.text.toString()), 1);
            int due = Math.max(0, Math.min(19, grown.value));
            Expect.due("value of " + grown.text, x.law(0, names[0], names[1], names[2]), due);
        }
    }

    /** A TEXT that grows by the grammar, and what it is worth, worked out as it grows. */
    private static final class Grown {
        final StringBuilder text = new StringBuilder();
        int value = 0;
        private final Random random;
        private final int[] names;

        Grown(Random random, int[] names) {
            this.random = random;
            this.names = names;
        }

        private boolean more() {
            return random.nextInt(4) == 0;
        }

        void either(int open) {
            both(open);
            while (more()) {
                int left = value;
                text.append('|');
                both(open);
                value = left != 0 | value != 0 ? 1 : 0;
            }
        }

        private void both(int open) {
            compared(open);
            while (more()) {
                int left = value;
                text.append('&');
                compared(open);
                value = left != 0 & value != 0 ? 1 : 0;
            }
        }

        private void compared(int open) {
            sum(open);
            if (more()) {
                int left = value;
                int sign = random.nextInt(3) - 1;
                text.append("<=>".charAt(sign + 1));
                sum(open);
                value = Integer.compare(left, value) == sign ? 1 : 0;
            }
        }

        private void sum(int open) {
            product(open);
            while (more()) {
                int left = value;
                boolean plus = random.nextBoolean();
                text.append(plus ? '+' : '-');
                product(open);
                value = plus ? left + value : left - value;
            }
        }

        private void product(int open) {
            single(open);
            while (more()) {
                int left = value;
                int sign = random.nextInt(3);
                text.append("*/%".charAt(sign));
                single(open);
                if (sign == 0) {
                    value = left * value;
                } else if (value != 0) {
                    value = sign == 1 ? left / value : left % value;
                }
            }
        }

        private void single(int open) {
            int form = random.nextInt(6);
            if (form == 0 && open < 5) {
                text.append('!');
                single(open + 1);
                value = value == 0 ? 1 : 0;
            } else if (form == 1 && open < 5) {
                text.append('(');
                either(open + 1);
                text.append(')');
            } else if (form < 4) {
                int name = random.nextInt(3);
                text.append("cyb".charAt(name));
                value = names[name];
            } else {
                value = random.nextInt(random.nextBoolean() ? 10 : 10000);
                text.append(value);
            }
        }
    }
}
