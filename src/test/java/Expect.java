/** What the tests share: the ERRORS, answers against what is due, and TEXTS written as Strings. */
final class Expect {
    static final int BEYOND = -1000000001;
    static final int NONE = -1000000002;
    static final int STATE = -1000000003;
    static final int FULL = -1000000004;
    static final int KIND = -1000000005;

    private static int asked = 0;
    private static int wrong = 0;

    private Expect() {
    }

    static void due(String call, long got, long want) {
        asked++;
        if (got != want) {
            wrong++;
            System.out.println(call + " answered " + got + ", due is " + want);
        }
    }

    static void same(String call, String got, String want) {
        asked++;
        if (!got.equals(want)) {
            wrong++;
            System.out.println(call + " answered " + got + ", due is " + want);
        }
    }

    /** How many answers have been asked for so far. */
    static int asked() {
        return asked;
    }

    static void holds(String claim, boolean isSo) {
        due(claim, isSo ? 1 : 0, 1);
    }

    /** Ends a test: exit code 1 if an answer was not the one that is due. */
    static void end() {
        System.out.println(asked + " answers, " + wrong + " of them wrong");
        if (wrong > 0 || asked == 0) {
            System.exit(1);
        }
    }

    /** Feeds the signs of a String, eight a word as far as they go. */
    static int feed(OldLight light, String signs) {
        int fed = light.count(8);
        for (int from = 0; from < signs.length(); from += 8) {
            int n = Math.min(8, signs.length() - from);
            long word = 0;
            for (int i = n - 1; i >= 0; i--) {
                word = word << 8 | signs.charAt(from + i);
            }
            fed = light.feed(word, n);
        }
        return fed;
    }

    /** Feeds a String that is a TEXT of a USE. */
    static void law(OldLight light, int use, String signs) {
        due("text(" + use + ") of " + signs, text(light, use, signs), 1);
    }

    /** Feeds a String and takes it for the TEXT of a USE. */
    static int text(OldLight light, int use, String signs) {
        feed(light, signs);
        return light.text(use);
    }
}
