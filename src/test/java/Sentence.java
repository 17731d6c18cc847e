import java.io.IOException;
import java.io.UncheckedIOException;
import java.nio.file.Files;
import java.nio.file.Path;
import java.util.ArrayList;
import java.util.BitSet;
import java.util.List;
import java.util.Map;
import java.util.TreeMap;
import java.util.function.Function;
import java.util.function.Supplier;
import java.util.function.ToIntBiFunction;
import java.util.function.ToIntFunction;
import java.util.regex.Matcher;
import java.util.regex.Pattern;

/**
 * What tests of single sentences share. Each such test names its promise (or the Terms) and the
 * sentence; the sentence has to stand in the document, and none of the document's may be left unnamed.
 */
abstract class Sentence {
    static final int LOW = -1000000000;
    static final int BEYOND = LOW - 1;
    static final int NONE = LOW - 2;
    static final int STATE = LOW - 3;
    static final int FULL = LOW - 4;
    static final int KIND = LOW - 5;
    static final int LEAST = Integer.MIN_VALUE;
    static final int GREATEST = Integer.MAX_VALUE;

    private static final Path DOCUMENT = Path.of("../shared/DOC.md");
    private static final Map<String, String> SECTIONS = new TreeMap<>();
    private static final Map<String, BitSet> NAMED = new TreeMap<>();
    private static String now = "";
    private static int askedBefore = 0;

    // ---- which sentence

    /** The test that begins here is of a sentence of a promise. */
    static void of(int promise, String words) {
        begin("Promise " + promise, words);
    }

    /** The test that begins here is of a sentence of the Terms. */
    static void term(String words) {
        begin("Terms", words);
    }

    static void begin(String section, String words) {
        endOne();
        now = section + " <" + words + "> ";
        askedBefore = Expect.asked();
        int place = section(section).indexOf(words);
        if (place < 0) {
            Expect.holds(now + "stands in the document", false);
            return;
        }
        NAMED.get(section).set(place, place + words.length());
    }

    private static void endOne() {
        if (!now.isEmpty() && Expect.asked() == askedBefore) {
            Expect.holds(now + "is asked for by its test", false);
        }
    }

    /** Each word of the promises and of the Terms stands in a sentence that a test has named. */
    static void noneIsLeftOut() {
        endOne();
        now = "";
        Expect.due("promises in the document", SECTIONS.keySet().stream().filter(s -> s.startsWith("Promise")).count(), 41);
        for (Map.Entry<String, String> section : SECTIONS.entrySet()) {
            if (section.getKey().startsWith("Promise") || section.getKey().equals("Terms")) {
                Expect.same(section.getKey() + ": what no test names", unnamed(section.getKey()), "");
            }
        }
    }

    private static String unnamed(String section) {
        StringBuilder left = new StringBuilder();
        for (int i = 0; i < SECTIONS.get(section).length(); i++) {
            char sign = SECTIONS.get(section).charAt(i);
            if (!NAMED.get(section).get(i) && sign != ' ') {
                left.append(sign);
            }
        }
        return left.toString();
    }

    static String document() {
        try {
            return Files.readString(DOCUMENT);
        } catch (IOException e) {
            throw new UncheckedIOException(e);
        }
    }

    /** The text below a heading, its blanks and ends of lines made one blank each. */
    private static String section(String name) {
        if (SECTIONS.isEmpty()) {
            for (String part : document().split("(?m)^## ")) {
                String heading = part.substring(0, part.indexOf('\n'));
                String text = part.substring(part.indexOf('\n'))
                    .replaceAll("(?m)^```.*$", " ").replaceAll("(?m)^[1-4]\\. ", " ")
                    .replaceAll("(?m)^`[^`]*`: ", " ").replaceAll("\\s+", " ").trim();
                Matcher promise = Pattern.compile("Promise \\d+").matcher(heading);
                String key = promise.lookingAt() ? promise.group() : heading.trim();
                SECTIONS.put(key, text);
                NAMED.put(key, new BitSet());
            }
        }
        return SECTIONS.getOrDefault(name, "");
    }

    // ---- what is due

    static void due(String call, long got, long want) {
        Expect.due(now + call, got, want);
    }

    static void same(String call, String got, String want) {
        Expect.same(now + call, got, want);
    }

    static void holds(String claim, boolean isSo) {
        Expect.holds(now + claim, isSo);
    }

    /** A row of answers, of calls with 0, 1, .. */
    static void row(String call, Function<Integer, Integer> act, int... want) {
        for (int i = 0; i < want.length; i++) {
            due(call + " of " + i, act.apply(i), want[i]);
        }
    }

    /** An act is refused with an ERROR: told() tells one more of these, and nothing else is otherwise. */
    static void refused(Supplier<OldLight> made, String call, ToIntFunction<OldLight> act, int error) {
        OldLight asked = made.get();
        OldLight other = made.get();
        due(call, act.applyAsInt(asked), error);
        for (int k = 1; k <= 5; k++) {
            due(call + ", behind it told(" + k + ")", asked.told(k), other.told(k) + (LOW - k == error ? 1 : 0));
        }
        same(call + ", behind it the state", Shown.all(asked), Shown.all(other));
    }

    /** An act is taken: it is no ERROR of any sort. */
    static void taken(Supplier<OldLight> made, String call, ToIntFunction<OldLight> act) {
        OldLight asked = made.get();
        OldLight other = made.get();
        act.applyAsInt(asked);
        for (int k = 1; k <= 5; k++) {
            due(call + " is taken: told(" + k + ")", asked.told(k), other.told(k));
        }
    }

    /** A number of a call is taken from its least to its greatest, and BEYOND on either side of these. */
    static void bounds(Supplier<OldLight> made, String call, int least, int greatest, ToIntBiFunction<OldLight, Integer> act) {
        for (int v : new int[] {least, greatest}) {
            OldLight x = made.get();
            int before = x.told(1);
            act.applyAsInt(x, v);
            due(String.format(call, v) + " is within: told(1)", x.told(1), before);
        }
        for (int v : outside(least, greatest)) {
            refused(made, String.format(call, v), x -> act.applyAsInt(x, v), BEYOND);
        }
    }

    /** Numbers just out of bounds, the farthest ones, and some whose lowest bits would be within. */
    static List<Integer> outside(int least, int greatest) {
        int[] tries = {least - 1, greatest + 1, LEAST, GREATEST, LEAST + least, least + 256, least + 65536, ~greatest - 1, -256};
        List<Integer> out = new ArrayList<>();
        for (int v : tries) {
            if ((v < least || v > greatest) && !out.contains(v)) {
                out.add(v);
            }
        }
        return out;
    }
}
