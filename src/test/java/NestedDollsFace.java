import java.lang.reflect.Constructor;
import java.lang.reflect.Field;
import java.lang.reflect.Method;
import java.lang.reflect.Modifier;
import java.nio.file.Files;
import java.nio.file.Path;
import java.util.ArrayList;
import java.util.List;
import java.util.Set;
import java.util.TreeSet;
import java.util.regex.Matcher;
import java.util.regex.Pattern;

/** The public face, and those rules of LANGUAGE.md that can be read off the class and its source. */
public final class NestedDollsFace {
    private static final String SOURCE = "src/main/java/NestedDolls.java";
    private static final String[] METHODS = {
        "int dolls(int,int,int,int)", "int ofDoll(int,int)", "int girth(int,int)", "int room(int,int)",
        "int fits(int,int)", "int act(int)", "int anew()", "int can()", "int day(int,int,int,int,int)",
        "int fewest(int,int,int,int)", "int stands(int)", "int tidy(int)", "int chain()",
        "int reading(int,int,int)", "int back(int)", "int girths(int)", "int rooms(int)", "int kinds(int)",
        "long odds(int)", "int sheet(int,int,int)", "int lose(int)", "int put(int,int,int)",
        "long cell(int,int,int)", "int copy(int,int,int,int,int)", "int tell(int)", "int shake(int)",
        "int as(int,int)", "int trace()", "int fault()", "int many(int)"};
    private static final String[] CONSTANTS = {"UNKNOWN", "OUTSIDE", "STATE", "FULL", "NONE", "LOST"};
    private static final String[] BANNED = {"\\bthrow\\b", "\\bthrows\\b", "\\btry\\b", "\\bcatch\\b", "\\bfinally\\b",
        "\\bsynchronized\\b", "\\bassert\\b", "->", "::", "\\bRandom\\b", "\\bThread\\b", "Exact\\b", "\\bpackage\\b",
        "\\bStream\\b", "\\bHashMap\\b", "currentTimeMillis", "nanoTime", "\\bprotected\\b"};
    private static final int LONGEST_METHOD = 60, MOST_PARAMETERS = 7, MOST_CLASSES = 12, MOST_FIELDS = 20;
    private static int wrong = 0;

    private static void check(boolean so, String what) {
        if (!so) {
            wrong++;
            System.out.println("not so: " + what);
        }
    }

    public static void main(String[] args) throws Exception {
        face();
        members(NestedDolls.class);
        for (Class<?> inner : NestedDolls.class.getDeclaredClasses()) {
            check(Modifier.isStatic(inner.getModifiers()), inner + " is static");
            check(!Modifier.isPublic(inner.getModifiers()), inner + " is not public");
            members(inner);
        }
        check(NestedDolls.class.getDeclaredClasses().length < MOST_CLASSES, "at most twelve classes");
        source(Files.readAllLines(Path.of(SOURCE)));
        System.out.println(wrong == 0 ? "the face is as due" : wrong + " things are not as due");
        if (wrong != 0) {
            System.exit(1);
        }
    }

    private static void face() {
        check(Modifier.isFinal(NestedDolls.class.getModifiers()), "the class is final");
        Set<String> found = new TreeSet<>();
        Set<String> publicNames = new TreeSet<>();
        for (Method method : NestedDolls.class.getDeclaredMethods()) {
            if (!Modifier.isPrivate(method.getModifiers())) {
                found.add(told(method));
                publicNames.add(method.getName());
                check(Modifier.isPublic(method.getModifiers()), method + " is public or private");
                check(!Modifier.isStatic(method.getModifiers()), method + " is not static");
            }
        }
        check(found.equals(new TreeSet<>(List.of(METHODS))), "the public methods are " + found);
        for (Method method : NestedDolls.class.getDeclaredMethods()) {
            check(!Modifier.isPrivate(method.getModifiers()) || !publicNames.contains(method.getName()),
                "private " + method.getName() + " bears no public name");
        }
        Set<String> constants = new TreeSet<>();
        for (Field field : NestedDolls.class.getDeclaredFields()) {
            if (!Modifier.isPrivate(field.getModifiers())) {
                constants.add(field.getName());
                check(Modifier.isPublic(field.getModifiers()), field + " is public or private");
            }
        }
        check(constants.equals(new TreeSet<>(List.of(CONSTANTS))), "the constants are " + constants);
        Constructor<?>[] constructors = NestedDolls.class.getDeclaredConstructors();
        check(constructors.length == 1 && constructors[0].getParameterCount() == 0
            && Modifier.isPublic(constructors[0].getModifiers()), "one public constructor");
    }

    private static String told(Method method) {
        List<String> types = new ArrayList<>();
        for (Class<?> type : method.getParameterTypes()) {
            types.add(type.getSimpleName());
        }
        return method.getReturnType().getSimpleName() + " " + method.getName() + "(" + String.join(",", types) + ")";
    }

    private static void members(Class<?> one) {
        int fields = 0;
        for (Field field : one.getDeclaredFields()) {
            if (Modifier.isStatic(field.getModifiers())) {
                check(Modifier.isFinal(field.getModifiers()), field + " is final");
            } else {
                fields++;
            }
        }
        check(fields <= MOST_FIELDS, one + " has at most twenty fields");
        for (Method method : one.getDeclaredMethods()) {
            check(method.getParameterCount() <= MOST_PARAMETERS, method + " has at most seven parameters");
        }
    }

    private static void source(List<String> lines) {
        int begun = 0;
        for (int at = 0; at < lines.size(); at++) {
            String line = lines.get(at);
            String code = line.replaceAll("//.*", "").replaceAll("^\\s*/?\\*.*", "");
            for (String banned : BANNED) {
                Matcher matcher = Pattern.compile(banned).matcher(code);
                check(!matcher.find(), "line " + (at + 1) + " has nothing like " + banned);
            }
            check(!code.contains("import ") || code.equals("import java.util.Arrays;"), "line " + (at + 1) + " imports");
            check(line.chars().allMatch(c -> c > 0 && c < 128), "line " + (at + 1) + " is plain");
            if (line.matches("    (    )?\\S.*\\) \\{")) {
                begun = at;
            }
            if (line.matches("    (    )?\\}")) {
                check(at - begun < LONGEST_METHOD, "the method at line " + (begun + 1) + " is short");
                begun = at;
            }
        }
    }
}
