import java.io.IOException;
import java.lang.reflect.Constructor;
import java.lang.reflect.Field;
import java.lang.reflect.Method;
import java.lang.reflect.Modifier;
import java.nio.file.Files;
import java.nio.file.Path;
import java.util.ArrayList;
import java.util.Arrays;
import java.util.List;
import java.util.regex.Matcher;
import java.util.regex.Pattern;

/** 'The public face', line by line as it is printed there, and the groups that 'Terms' puts the calls in. */
public final class FaceEdgesTest {
    private static final Path FILE = Path.of("src/main/java/EvenWheel.java");
    private static final String CLASS = "public final class EvenWheel {";
    private static final String CONSTANTS =
        "public static final int NONE = -1, UNKNOWN = -101, OUTSIDE = -102, STATE = -103, FULL = -104;";
    private static final String CONSTRUCTOR = "public EvenWheel();";
    private static final String[] CALLS = {"public int build(int n);", "public int arm(int p);", "public int told(int what);",
        "public int rule(int which, int v);", "public int drive(boolean is);", "public int lean(int r);",
        "public int greatest();", "public int worst();", "public int load(int c);", "public int cabin(int c, int what);",
        "public int inside(int c, int i);", "public int step();", "public int why();", "public int stop(int m);",
        "public int come(int m, int a, int b, int c, int wishes);", "public int waits(int k);", "public int may(int k);",
        "public int next();", "public int fill();", "public int tire(int k);", "public int leave(int p);",
        "public int party(int p, int what);", "public int order(int what);", "public int ordered(int i);",
        "public int cost(int order);", "public int roll();", "public int letOut();", "public int stranded();",
        "public int note(int sort, int k);", "public int up(int begin, int side);", "public int begins();",
        "public int tear();", "public int guess(int c, int low, int high);", "public int read(int r, int v, int miss);",
        "public int forget();", "public int fit(int c, int side);", "public int breaks();", "public int agree();",
        "public long digest();"};
    private static final String[][] GROUPS = {
        {"the wheel", "build", "arm", "told", "rule", "drive", "lean", "greatest", "worst", "load", "cabin", "inside", "step",
            "why", "stop"},
        {"the line", "come", "waits", "may", "next", "fill", "tire", "leave", "party"},
        {"emptying", "order", "ordered", "cost", "roll", "letOut", "stranded"},
        {"notes", "note", "up", "begins", "tear"},
        {"guesses", "guess", "read", "forget", "fit", "breaks", "agree"},
        {"what is told", "digest"}};

    public static void main(String[] args) throws IOException {
        String text = Files.readString(FILE);
        Edges edges = new Edges("FaceEdgesTest");
        theClass(edges, text);
        constants(edges, text);
        for (String call : CALLS) {
            edges.face(call, "there, with these numbers and this answer", w -> isThere(w, text, call));
        }
        nothingElse(edges);
        groups(edges, text);
        edges.end();
    }

    private static void theClass(Edges edges, String text) {
        edges.face(CLASS, "public and final, without a package", w -> {
            w.that("it is written so", text.contains("\n" + CLASS + "\n"));
            w.that("public and final", EvenWheel.class.getModifiers() == (Modifier.PUBLIC | Modifier.FINAL));
            w.that("no package", EvenWheel.class.getPackageName().isEmpty());
            w.that("it stands on its own", EvenWheel.class.getSuperclass() == Object.class);
            w.that("it is nothing else", EvenWheel.class.getInterfaces().length == 0);
        });
        edges.face(CONSTRUCTOR, "the one that there is", w -> {
            Constructor<?>[] all = EvenWheel.class.getDeclaredConstructors();
            w.that("one", all.length == 1);
            w.that("public", all[0].getModifiers() == Modifier.PUBLIC);
            w.that("of nothing", all[0].getParameterCount() == 0 && all[0].getExceptionTypes().length == 0);
        });
    }

    private static void constants(Edges edges, String text) {
        edges.face(CONSTANTS, "each with its number", w -> {
            w.that("they are written so", text.contains("\n    " + CONSTANTS + "\n"));
            w.that("NONE", EvenWheel.NONE == -1);
            w.that("UNKNOWN", EvenWheel.UNKNOWN == -101);
            w.that("OUTSIDE", EvenWheel.OUTSIDE == -102);
            w.that("STATE", EvenWheel.STATE == -103);
            w.that("FULL", EvenWheel.FULL == -104);
        });
        edges.face(CONSTANTS, "public, static, final, whole numbers, and no others", w -> {
            List<String> names = new ArrayList<>();
            for (Field field : EvenWheel.class.getFields()) {
                names.add(field.getName());
                w.that(field.getName() + " as a constant",
                    field.getModifiers() == (Modifier.PUBLIC | Modifier.STATIC | Modifier.FINAL));
                w.that(field.getName() + " as a whole number", field.getType() == int.class);
            }
            w.that("these five, not " + names, names.equals(List.of("NONE", "UNKNOWN", "OUTSIDE", "STATE", "FULL")));
        });
    }

    private static String nameOf(String call) {
        Matcher name = Pattern.compile("(\\w+)\\(").matcher(call);
        return name.find() ? name.group(1) : "";
    }

    private static List<Class<?>> numbersOf(String call) {
        List<Class<?>> all = new ArrayList<>();
        for (String each : call.substring(call.indexOf('(') + 1, call.indexOf(')')).split(", ")) {
            if (!each.isEmpty()) {
                all.add(each.startsWith("boolean ") ? boolean.class : int.class);
            }
        }
        return all;
    }

    private static void isThere(Tried w, String text, String call) {
        w.that("it is written so", text.contains("\n    " + call.replace(";", " {\n")));
        Method method = null;
        for (Method each : EvenWheel.class.getDeclaredMethods()) {
            method = each.getName().equals(nameOf(call)) ? each : method;
        }
        w.that("it is there", method != null);
        if (method == null) {
            return;
        }
        w.that("public, and no more", method.getModifiers() == Modifier.PUBLIC);
        w.that("its answer", method.getReturnType() == (call.startsWith("public long") ? long.class : int.class));
        w.that("its numbers", Arrays.asList(method.getParameterTypes()).equals(numbersOf(call)));
        w.that("it throws nothing", method.getExceptionTypes().length == 0);
    }

    private static void nothingElse(Edges edges) {
        edges.face("}", "nothing else is public, protected or open to the package", w -> {
            List<String> due = new ArrayList<>();
            for (String call : CALLS) {
                due.add(nameOf(call));
            }
            List<String> names = new ArrayList<>();
            for (Method method : EvenWheel.class.getDeclaredMethods()) {
                if (!Modifier.isPrivate(method.getModifiers()) && !method.isSynthetic()) {
                    names.add(method.getName());
                }
            }
            w.that("39 calls, not " + names.size(), names.size() == due.size());
            w.that("these calls, not " + names, names.containsAll(due));
            for (Field field : EvenWheel.class.getDeclaredFields()) {
                boolean constant = Modifier.isPublic(field.getModifiers()) && Modifier.isStatic(field.getModifiers());
                w.that(field.getName(), constant || Modifier.isPrivate(field.getModifiers()) || field.isSynthetic());
            }
            for (Class<?> inside : EvenWheel.class.getDeclaredClasses()) {
                w.that(inside.getName(), Modifier.isStatic(inside.getModifiers()) && Modifier.isPrivate(inside.getModifiers()));
            }
        });
    }

    /** Groups as they are written in the class: behind each such line its calls, in order. */
    private static void groups(Edges edges, String text) {
        for (String[] group : GROUPS) {
            List<String> calls = List.of(group).subList(1, group.length);
            String sentence = "Ahead of the calls `" + String.join("`, `", calls) + "` the interface says: ---- " + group[0];
            edges.terms(sentence, "these calls stand behind it, in this order", w -> {
                String heading = "\n    // ---- " + group[0] + "\n";
                int from = text.indexOf(heading);
                w.that("it says so", from >= 0 && text.indexOf(heading, from + 1) < 0);
                int to = text.indexOf("\n    // ---- ", from + 1);
                String part = text.substring(Math.max(0, from), to < 0 ? text.length() : to);
                List<String> found = new ArrayList<>();
                Matcher call = Pattern.compile("(?m)^ {4}public \\w+ (\\w+)\\(").matcher(part);
                while (call.find()) {
                    found.add(call.group(1));
                }
                w.that("these calls, not " + found, found.equals(calls));
            });
        }
    }
}
