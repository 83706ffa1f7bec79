import java.io.IOException;
import java.lang.reflect.Constructor;
import java.lang.reflect.Field;
import java.lang.reflect.Method;
import java.lang.reflect.Modifier;
import java.nio.file.Files;
import java.nio.file.Path;
import java.util.ArrayList;
import java.util.Arrays;
import java.util.List;
import java.util.Set;
import java.util.TreeSet;
import java.util.regex.Matcher;
import java.util.regex.Pattern;

/** The public face, and the rules of ../shared/LANGUAGE.md that a program can check. */
public final class RulesTest {
    private static final Path SOURCE = Path.of("src/main/java/PeriodSlots.java");
    private static final String[] FACE = {
        "int write(int)", "int wipe()", "int fault()", "int field()", "int about(int)", "int station(int, int)",
        "int round()", "int turn(int, int)", "int lay(int, int)", "int shift(int, int)", "int join(int, int)",
        "int run()", "int undo()", "int ahead(int)", "int plan(int)", "int shifted(int, int)",
        "int awake(int, int)", "int arrives(int, int, int)", "int judge(int, long)", "int see(int, int, int)",
        "int unsee()", "int which(int)", "int share(int, boolean)", "int off(int, boolean)", "long seed(long)",
        "int drawn(int)", "int keep(int)", "int again(int)"};

    private RulesTest() { }

    public static void main(String[] arguments) throws IOException {
        String code = withoutComments(Files.readString(SOURCE));
        face();
        membersOfAllClasses();
        words(code);
        library(code);
        makesObjectsOnlyWhenMade(code);
        lengthOfMethods(code);
        Due.end("RulesTest");
    }

    private static String withoutComments(String text) {
        String blocks = Pattern.compile("/\\*.*?\\*/", Pattern.DOTALL).matcher(text).replaceAll("");
        return blocks.replaceAll("//[^\n]*", "").replaceAll("'[^']'", "' '");
    }

    private static List<Class<?>> classes() {
        List<Class<?>> all = new ArrayList<>(List.of(PeriodSlots.class));
        all.addAll(Arrays.asList(PeriodSlots.class.getDeclaredClasses()));
        return all;
    }

    private static void face() {
        Set<String> due = new TreeSet<>(Arrays.asList(FACE));
        Set<String> found = new TreeSet<>();
        Set<String> constants = new TreeSet<>();
        int modifiers = PeriodSlots.class.getModifiers();
        Due.holds("public final class", Modifier.isPublic(modifiers) && Modifier.isFinal(modifiers));
        for (Method method : PeriodSlots.class.getDeclaredMethods()) {
            boolean isPublic = Modifier.isPublic(method.getModifiers());
            Due.holds(method + " is public or private", isPublic || Modifier.isPrivate(method.getModifiers()));
            if (isPublic) {
                Due.holds(method + " belongs to an object", !Modifier.isStatic(method.getModifiers()));
                String types = Arrays.toString(method.getParameterTypes()).replaceAll("[\\[\\]]", "");
                found.add(method.getReturnType() + " " + method.getName() + "(" + types + ")");
            }
        }
        Due.holds("methods " + found, found.equals(due));
        for (Field one : PeriodSlots.class.getDeclaredFields()) {
            boolean isPublic = Modifier.isPublic(one.getModifiers());
            Due.holds(one + " is public or private", isPublic || Modifier.isPrivate(one.getModifiers()));
            if (isPublic) {
                constants.add(one.getName());
            }
        }
        Due.holds("constants " + constants, constants.equals(Set.of("UNKNOWN", "BAD", "LATE", "FULL", "NONE")));
        Constructor<?>[] makers = PeriodSlots.class.getDeclaredConstructors();
        Due.holds("one public constructor", makers.length == 1 && Modifier.isPublic(makers[0].getModifiers()));
    }

    private static void membersOfAllClasses() {
        Due.holds("at most 12 classes", classes().size() <= 12);
        Set<String> names = new TreeSet<>();
        for (Method method : PeriodSlots.class.getDeclaredMethods()) {
            if (Modifier.isPublic(method.getModifiers())) {
                names.add(method.getName());
            }
        }
        for (Class<?> one : classes()) {
            boolean inside = one != PeriodSlots.class;
            Due.holds(one + " is static", !inside || Modifier.isStatic(one.getModifiers()));
            int fields = 0;
            for (Field each : one.getDeclaredFields()) {
                boolean isStatic = Modifier.isStatic(each.getModifiers());
                Due.holds(each + " is no static state", !isStatic || Modifier.isFinal(each.getModifiers()));
                fields += isStatic ? 0 : 1;
            }
            Due.holds(one + " has at most 20 fields", fields <= 20);
            for (Method method : one.getDeclaredMethods()) {
                Due.holds(method + " has at most 7 parameters", method.getParameterCount() <= 7);
                boolean fresh = !names.contains(method.getName());
                Due.holds(method + " has a name of its own", fresh || Modifier.isPublic(method.getModifiers()));
            }
        }
    }

    private static void words(String code) {
        String banned = "throw|throws|try|catch|finally|synchronized|assert|protected|volatile|native|double|float"
            + "|equals|hashCode|toString|Object|Exception|Error|Random|Thread|Instant|nanoTime|currentTimeMillis"
            + "|enum|interface|record|abstract|instanceof|StringBuilder|\\w+Exact";
        Matcher word = Pattern.compile("\\b(" + banned + ")\\b").matcher(code);
        Due.holds("no banned word", !word.find());
        Due.holds("no lambda and no method reference", !code.contains("->") && !code.contains("::"));
        Due.holds("no package line", !Pattern.compile("(?m)^\\s*package\\b").matcher(code).find());
        Due.holds("no initialiser block of a class", !Pattern.compile("\\bstatic\\s*\\{").matcher(code).find());
        for (int k = 0; k < code.length(); k++) {
            Due.holds("plain signs", code.charAt(k) < 127);
        }
    }

    private static void library(String code) {
        Set<String> allowed = Set.of(
            "Arrays.fill", "System.arraycopy", "Math.min", "Math.max", "Math.abs",
            "Integer.bitCount", "Integer.lowestOneBit", "Integer.numberOfTrailingZeros");
        Matcher use = Pattern.compile("\\b([A-Z][a-z]\\w*)\\.(\\w+)\\s*\\(").matcher(code);
        while (use.find()) {
            String name = use.group(1) + "." + use.group(2);
            Due.holds(name + " is a part of the library that is left", allowed.contains(name));
        }
        Matcher line = Pattern.compile("(?m)^import (.*);").matcher(code);
        while (line.find()) {
            Due.holds("import of " + line.group(1), line.group(1).equals("java.util.Arrays"));
        }
    }

    /** All calls of a run live in one room, so nothing may be made after the constructors. */
    private static void makesObjectsOnlyWhenMade(String code) {
        boolean inConstructor = false;
        for (String line : code.split("\n")) {
            if (line.matches("\\s*(public )?(PeriodSlots|Shelf)\\(.*\\) \\{")) {
                inConstructor = true;
            } else if (line.matches("\\s*}")) {
                inConstructor = false;
            }
            boolean isFieldsOwn = line.matches("\\s*(private )?final [\\w\\[\\]]+ \\w+ = new .*;");
            Due.holds("made in a call: " + line, !line.contains("new ") || inConstructor || isFieldsOwn);
        }
    }

    private static void lengthOfMethods(String code) {
        int length = 0;
        for (String line : code.split("\n")) {
            length = line.matches("\\s*((public|private|static|final) )*[\\w\\[\\]]+ \\w+\\(.*\\) \\{") ? 1 : length + 1;
            boolean ends = line.matches("    }|        }");
            Due.holds("a method of at most 60 lines", !ends || length <= 60);
            Due.holds("a line of at most 130 signs", line.length() <= 130);
        }
    }
}
