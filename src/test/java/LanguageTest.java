import java.io.IOException;
import java.nio.file.Files;
import java.nio.file.Path;
import java.util.regex.Matcher;
import java.util.regex.Pattern;

/** Rules of ../shared/LANGUAGE.md that can be seen from the text of the class alone. */
public final class LanguageTest {
    private static final String[] FORBIDDEN = {"throw", "throws", "try", "catch", "finally", "synchronized", "assert",
        "hashCode", "toString", "native", "volatile", "transient", "protected", "import", "package", "Object",
        "Exception", "Thread", "Random", "HashMap", "Map", "Set", "Exact", "parseInt", "valueOf", "format", "var", "yield"};

    public static void main(String[] args) throws IOException {
        String source = Files.readString(Path.of("src/main/java/OldLight.java"));
        String code = source.replaceAll("(?s)/\\*.*?\\*/", "").replaceAll("//[^\n]*", "").replaceAll("'.'", "' '");
        for (String word : FORBIDDEN) {
            Expect.holds("no " + word, !Pattern.compile("\\b" + word + "\\b").matcher(code).find());
        }
        Expect.holds("no lambda", !code.contains("->"));
        Expect.holds("no method reference", !code.contains("::"));
        Expect.holds("no text", !code.contains("\""));
        Expect.holds("only signs 1 to 127", source.chars().allMatch(sign -> sign > 0 && sign < 128));
        methodsAreShort(code);
        noNameIsUsedTwice();
        classesAreFew();
        Expect.end();
    }

    private static void methodsAreShort(String code) {
        Matcher head = Pattern.compile("(?m)^( +)(?:public |private |static |final )*[\\w\\[\\]]+ (\\w+)\\(([^)]*)\\) \\{$")
            .matcher(code);
        int seen = 0;
        while (head.find()) {
            seen++;
            int end = code.indexOf("\n" + head.group(1) + "}", head.end());
            long lines = code.substring(head.start(), end).lines().count() + 1;
            Expect.holds(head.group(2) + " is short", lines <= 60);
            Expect.holds(head.group(2) + " takes seven at most", head.group(3).split(",").length <= 7);
        }
        Expect.holds("methods were seen", seen > 80);
    }

    private static void noNameIsUsedTwice() {
        for (java.lang.reflect.Method open : OldLight.class.getDeclaredMethods()) {
            if (!java.lang.reflect.Modifier.isPublic(open.getModifiers())) {
                continue;
            }
            for (java.lang.reflect.Method other : OldLight.class.getDeclaredMethods()) {
                Expect.holds("one " + open.getName(), open.equals(other) || !open.getName().equals(other.getName()));
            }
            for (Class<?> inside : OldLight.class.getDeclaredClasses()) {
                for (java.lang.reflect.Method other : inside.getDeclaredMethods()) {
                    Expect.holds("none inside is " + open.getName(), !open.getName().equals(other.getName()));
                }
            }
        }
    }

    private static void classesAreFew() {
        Class<?>[] classes = OldLight.class.getDeclaredClasses();
        Expect.holds("twelve classes at most", classes.length < 12);
        for (Class<?> inside : classes) {
            int modifiers = inside.getModifiers();
            Expect.holds(inside + " is static", java.lang.reflect.Modifier.isStatic(modifiers));
            Expect.holds(inside + " is not public", !java.lang.reflect.Modifier.isPublic(modifiers));
        }
        Expect.holds("OldLight is final", java.lang.reflect.Modifier.isFinal(OldLight.class.getModifiers()));
    }
}
