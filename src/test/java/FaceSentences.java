import java.io.IOException;
import java.io.UncheckedIOException;
import java.lang.reflect.Method;
import java.lang.reflect.Modifier;
import java.nio.file.Files;
import java.nio.file.Path;
import java.util.ArrayList;
import java.util.Arrays;
import java.util.List;
import java.util.regex.Matcher;
import java.util.regex.Pattern;

/** Sentences on the face, on ERRORS, and on how often an object is used. */
final class FaceSentences extends Sentence {
    static void all() {
        face();
        headings();
        calls();
        errors();
        order();
        quotients();
        newObject();
        newObjectsAreApart();
    }

    private static void face() {
        begin("The public face", "public final class OldLight {");
        String text = document();
        text = text.substring(text.indexOf("public final class OldLight {"));
        List<String> told = new ArrayList<>();
        Matcher line = Pattern.compile("public int (\\w+)\\(([^)]*)\\);").matcher(text);
        while (line.find()) {
            told.add(line.group(1) + "(" + line.group(2).replaceAll(" \\w+(,|$)", "$1") + ")");
        }
        List<String> built = new ArrayList<>();
        for (Method method : OldLight.class.getDeclaredMethods()) {
            if (Modifier.isPublic(method.getModifiers()) && !Modifier.isStatic(method.getModifiers())
                    && method.getReturnType() == int.class) {
                String types = Arrays.toString(Arrays.stream(method.getParameterTypes()).map(Class::getName).toArray());
                built.add(method.getName() + types.replace('[', '(').replace(']', ')'));
            }
        }
        due("calls", told.size(), 40);
        told.sort(null);
        built.sort(null);
        same("calls", built.toString(), told.toString());
        due("constructors", OldLight.class.getConstructors().length, 1);
        due("constructors that are no part of it", OldLight.class.getDeclaredConstructors().length, 1);
        due("what OldLight() takes", OldLight.class.getConstructors()[0].getParameterCount(), 0);
    }

    /** Each heading that the interface has stands ahead of the calls that the document tells, and no others. */
    private static void headings() {
        String source = source();
        int found = 0;
        Matcher told = Pattern.compile("Ahead of the calls (.*?) the interface says: (---- .*)").matcher(document());
        while (told.find()) {
            term(told.group());
            found++;
            String heading = "// " + told.group(2).replaceAll("\\.$", "");
            int place = source.indexOf(heading + "\n");
            holds(heading + " stands in the source", place >= 0);
            String below = source.substring(Math.max(0, place) + heading.length());
            int end = below.indexOf("// ----");
            List<String> names = new ArrayList<>();
            Matcher call = Pattern.compile("(?m)^    public int (\\w+)\\(").matcher(below.substring(0, Math.max(0, end)));
            while (call.find()) {
                names.add("`" + call.group(1) + "`");
            }
            same("calls", String.join(", ", names), told.group(1));
        }
        due("headings", found, 5);
    }

    private static String source() {
        try {
            return Files.readString(Path.of("src/main/java/OldLight.java"));
        } catch (IOException e) {
            throw new UncheckedIOException(e);
        }
    }

    private static void calls() {
        begin("What it is", "An object is used for at most 512 calls after it has been made; what later calls answer is free.");
        OldLight x = new OldLight();
        x.ship(0, 5, 7);
        for (int i = 2; i <= 511; i++) {
            x.hours(i % 2 + 1);
        }
        due("the 512th call", x.count(2), 255 * 3);
        OldLight y = new OldLight();
        for (int i = 1; i <= 511; i++) {
            y.lay(8, 0, 0);
        }
        due("the 512th call: ERRORS so far", y.told(1), 511);
        OldLight z = Made.sevenShips();
        for (int i = 0; i < 400; i++) {
            z.image();
        }
        due("how often it was done, one more ahead of these", z.image(), 402);
    }

    private static void errors() {
        term("ERRORS are answers below -1000000000: LOW is -1000000000; LOW - 1 BEYOND, LOW - 2 NONE, LOW - 3 STATE,"
            + " LOW - 4 FULL, LOW - 5 KIND.");
        OldLight x = Made.sevenShips();
        due("BEYOND", x.bay(2), -1000000001);
        due("NONE", new OldLight().restore(), -1000000002);
        due("STATE", x.bay(3), -1000000003);
        due("FULL", x.ship(0, 0, 0), -1000000004);
        due("KIND", x.as(0, 2), -1000000005);
    }

    /** Each act that may answer more than one ERROR, with two that both hold: the one that is asked first. */
    private static void order() {
        term("Each act tells its ERRORS in the order in which they are asked; one that answers an ERROR changes nothing"
            + " but what told() tells.");
        refused(Made::laden, "bay(9)", x -> x.bay(9), BEYOND);
        refused(Made::sevenShips, "ship(70, 0, 0)", x -> x.ship(70, 0, 0), BEYOND);
        refused(Made::laden, "as(3, 2)", x -> x.as(3, 2), BEYOND);
        refused(Made::laden, "as(0, 7)", x -> x.as(0, 7), BEYOND);
        refused(() -> Made.withTape(50), "feed(0, 9)", x -> x.feed(0, 9), BEYOND);
        refused(() -> Made.atHour(9999), "hours(61)", x -> x.hours(61), BEYOND);
        refused(() -> Made.atHour(9999), "loose(41)", x -> x.loose(41), BEYOND);
        refused(Made::fresh, "lost(2)", x -> x.lost(2), BEYOND);
        refused(Made::sevenShips, "setting(127, 21)", x -> x.setting(127, 21), BEYOND);
        refused(Made::fresh, "which(0, 2)", x -> x.which(0, 2), BEYOND);
        refused(Made::laden, "deep(6, 19)", x -> x.deep(6, 19), BEYOND);
        refused(Made::laden, "sheet(4, 8, -1)", x -> x.sheet(4, 8, -1), BEYOND);
        refused(Made::laden, "sheet(0, 9, -1)", x -> x.sheet(0, 9, -1), BEYOND);
        refused(Made::laden, "put(3, 40, 0)", x -> x.put(3, 40, 0), NONE);
        refused(Made::laden, "move(4, 0, 3, 0, 1)", x -> x.move(4, 0, 3, 0, 1), BEYOND);
        refused(Made::laden, "move(3, 0, 4, 0, 1)", x -> x.move(3, 0, 4, 0, 1), BEYOND);
        refused(Made::laden, "move(0, 0, 3, 0, 1)", x -> x.move(0, 0, 3, 0, 1), NONE);
        refused(Made::laden, "move(3, 0, 0, 0, 1)", x -> x.move(3, 0, 0, 0, 1), NONE);
        refused(Made::laden, "move(0, -1, 1, 0, 1)", x -> x.move(0, -1, 1, 0, 1), KIND);
    }

    private static void quotients() {
        term("Quotients are cut (toward 0).");
        OldLight x = new OldLight();
        Expect.law(x, 0, "10+c/y");
        int[][] rows = {{7, 2, 13}, {-7, 2, 7}, {7, -2, 7}, {-7, -2, 13}, {1, 2, 10}, {-1, 2, 10}, {1, -2, 10}, {-2, 2, 9}};
        for (int[] a : rows) {
            due("10 + " + a[0] + " / " + a[1], x.law(0, a[0], a[1], 0), a[2]);
        }
    }

    private static void newObject() {
        of(1, "All as at first; eight CELLS, no SHIPS.");
        OldLight x = new OldLight();
        row("count", x::count, 8, 0, 0, 200, 0, 0, 0, 0, 0, 0, 0, 1);
        row("told", k -> x.told(k + 1), 0, 0, 0, 0, 0);
        row("BED", cell -> x.ofCell(cell, 0), 5, 5, 5, 5, 5, 5, 5, 5, BEYOND);
        row("a ROCK from", cell -> x.ofCell(cell, 1), 1, 1, 1, 1, 1, 1, 1, 1, BEYOND);
        row("a ROCK till", cell -> x.ofCell(cell, 2), 0, 0, 0, 0, 0, 0, 0, 0, BEYOND);
        row("SHIPS AT", cell -> x.ofCell(cell, 5), 0, 0, 0, 0, 0, 0, 0, 0, BEYOND);
        due("no first SHIP", x.ofShip(0, 3), BEYOND);
        row("no SHEET", x::judge, NONE, NONE, NONE, NONE, BEYOND);
        due("no TEXT of DEPTH", x.law(0, 1, 2, 13), 13);
        due("no TEXT of ELSE", x.law(1, 1, 1, 1), 0);
        due("no IMAGE", x.restore(), NONE);
        due("no BODIES", x.trace(0), NONE);
        due("no numbers wait", x.check(), 0);
        due("no bytes", x.text(0), -10);
        due("the first IMAGE", x.image(), 1);
    }

    private static void newObjectsAreApart() {
        of(1, "All as at first; eight CELLS, no SHIPS.");
        String first = Shown.all(new OldLight());
        OldLight other = new OldLight();
        OldLight laden = Made.sevenShips();
        laden.image();
        laden.loose(40);
        same("another one, made earlier", Shown.all(other), first);
        same("another one, made later", Shown.all(new OldLight()), first);
    }
}
