import java.io.IOException;
import java.lang.reflect.Field;
import java.lang.reflect.Member;
import java.lang.reflect.Method;
import java.lang.reflect.Modifier;
import java.nio.file.Files;
import java.nio.file.Path;
import java.util.HashSet;
import java.util.List;
import java.util.Set;
import java.util.regex.Matcher;
import java.util.regex.Pattern;

/** The rules of ../shared/LANGUAGE.md that can be looked up in the file and in the class; run from the project's folder. */
public final class LanguageTest {
    private static final Check CHECK = new Check("LanguageTest");
    private static final Path FILE = Path.of("src/main/java/EvenWheel.java");
    private static final List<String> FACE = List.of("build", "arm", "told", "rule", "drive", "lean", "greatest",
        "worst", "load", "cabin", "inside", "step", "why", "stop", "come", "waits", "may", "next", "fill", "tire",
        "leave", "party", "order", "ordered", "cost", "roll", "letOut", "stranded", "note", "up", "begins", "tear",
        "guess", "read", "forget", "fit", "breaks", "agree", "digest");
    private static final List<String> CONSTANTS = List.of("NONE", "UNKNOWN", "OUTSIDE", "STATE", "FULL");
    private static final List<String> NEVER = List.of("throw", "throws", "try", "catch", "synchronized", "assert",
        "package", "protected", "Exact", "Thread", "Random", "instanceof");

    public static void main(String[] args) throws IOException {
        String text = Files.readString(FILE);
        String code = text.replaceAll("(?s)/\\*.*?\\*/", "").replaceAll("//[^\n]*", "");
        words(text, code);
        face();
        for (Class<?> inside : EvenWheel.class.getDeclaredClasses()) {
            classInside(inside);
        }
        CHECK.that("11 at most some twelve classes", EvenWheel.class.getDeclaredClasses().length + 1 <= 12);
        sizes(code);
        CHECK.end();
    }

    private static void words(String text, String code) {
        for (String word : NEVER) {
            CHECK.that("6, 4 the word " + word, !Pattern.compile("\\b" + word + "\\b").matcher(code).find());
        }
        CHECK.that("2 a lambda or a method reference", !code.contains("->") && !code.contains("::"));
        Matcher imports = Pattern.compile("import ([^;]*);").matcher(code);
        while (imports.find()) {
            CHECK.that("4 import " + imports.group(1), imports.group(1).equals("java.util.Arrays"));
        }
        CHECK.that("signs 1 to 126", text.chars().allMatch(sign -> sign > 0 && sign < 127));
    }

    private static void face() {
        Class<?> face = EvenWheel.class;
        CHECK.that("1 public and final", Modifier.isPublic(face.getModifiers()) && Modifier.isFinal(face.getModifiers()));
        CHECK.that("1 one constructor", face.getDeclaredConstructors().length == 1);
        Set<String> names = new HashSet<>();
        for (Method method : face.getDeclaredMethods()) {
            hidden(method, FACE);
            CHECK.that("1 twice: " + method.getName(), names.add(method.getName()));
            Class<?> due = method.getName().equals("digest") || method.getName().equals("mix") ? long.class : int.class;
            CHECK.that("1 answer of " + method.getName(), method.getReturnType() == due);
        }
        CHECK.that("1 every method of the face", names.containsAll(FACE));
        for (Field field : face.getDeclaredFields()) {
            hidden(field, CONSTANTS);
        }
        fields(face);
    }

    /** Public, if the document has it, and else private. */
    private static void hidden(Member member, List<String> ofTheDocument) {
        boolean due = ofTheDocument.contains(member.getName());
        int is = member.getModifiers();
        CHECK.that("1 " + member.getName(), member.isSynthetic() || (due ? Modifier.isPublic(is) : Modifier.isPrivate(is)));
    }

    private static void classInside(Class<?> inside) {
        CHECK.that("2 static: " + inside, Modifier.isStatic(inside.getModifiers()));
        CHECK.that("1 not public: " + inside, !Modifier.isPublic(inside.getModifiers()));
        for (Method method : inside.getDeclaredMethods()) {
            CHECK.that("1 a name of the face: " + method, !FACE.contains(method.getName()));
            CHECK.that("11 seven parameters: " + method, method.getParameterCount() <= 7);
        }
        fields(inside);
    }

    private static void fields(Class<?> owner) {
        int own = 0;
        for (Field field : owner.getDeclaredFields()) {
            if (Modifier.isStatic(field.getModifiers())) {
                CHECK.that("5 final: " + field, Modifier.isFinal(field.getModifiers()));
            } else {
                own++;
            }
        }
        CHECK.that("11 some twenty fields: " + owner, own <= 20);
    }

    /** Methods begin at one or two levels of four spaces and end with a brace at the same. */
    private static void sizes(String code) {
        Matcher method = Pattern.compile("(?m)^( {4}| {8})(?! )[\\w\\[\\] ]+\\([^)]*\\) \\{\n").matcher(code);
        int found = 0;
        while (method.find()) {
            found++;
            int end = code.indexOf("\n" + method.group(1) + "}", method.end() - 1);
            long lines = code.substring(method.start(), Math.max(method.end(), end)).lines().count();
            CHECK.that("11 sixty lines: " + method.group().trim(), lines <= 60);
        }
        CHECK.that("methods were found", found > 100);
    }
}
