import java.io.IOException;
import java.lang.reflect.Constructor;
import java.lang.reflect.Field;
import java.lang.reflect.Method;
import java.lang.reflect.Modifier;
import java.nio.file.Files;
import java.nio.file.Path;
import java.util.Arrays;
import java.util.List;
import java.util.Set;
import java.util.TreeSet;
import java.util.regex.Matcher;
import java.util.regex.Pattern;

/** The public face, and those rules of LANGUAGE.md that can be seen from the class and its text. */
public final class FaceTest {
    private static final Checks CHECKS = new Checks("FaceTest");
    private static final Set<String> FACE = Set.of(
        "int store()", "int head()", "boolean share(int,int,int)", "int task(int,int,int)", "boolean now(int)",
        "boolean seed(int)", "int feed(int,int,int,int,int)", "int law(int,int)", "int gives(int,int,int)",
        "int does(int,int)", "int told(int,int,int,int)", "int answer(int,int)", "int can(int,int,int)",
        "long worse(int,int,int,int)", "int parted(int,int,int,int,int)", "int fewest(int)", "int lacks(int,int)",
        "int next(int,int)", "int purest(int)", "int old(int,int,int)", "int back(int)", "int lasts(int,int,int,int)",
        "int mistakes(int,int,int)", "int curve(int,int,int)", "boolean asks(int,int)", "int unasked(int)",
        "int again()", "int check(int)", "int count(int)");

    public static void main(String[] args) throws IOException {
        face();
        members();
        text(Files.readString(Path.of("src/main/java/StarDays.java")));
        CHECKS.end();
    }

    private static void face() {
        CHECKS.due("public final class", StarDays.class.getModifiers(), Modifier.PUBLIC | Modifier.FINAL);
        Set<String> found = new TreeSet<>();
        for (Method method : StarDays.class.getDeclaredMethods()) {
            if (Modifier.isPublic(method.getModifiers())) {
                CHECKS.due("static " + method, Modifier.isStatic(method.getModifiers()), false);
                String types = Arrays.toString(method.getParameterTypes()).replaceAll("[\\[\\] ]", "");
                found.add(method.getReturnType() + " " + method.getName() + "(" + types + ")");
            }
        }
        CHECKS.due("the face is " + found, found.equals(FACE), true);
        Constructor<?>[] constructors = StarDays.class.getDeclaredConstructors();
        CHECKS.due("constructors", constructors.length, 1);
        CHECKS.due("parameters of the constructor", constructors[0].getParameterCount(), 0);
        CHECKS.due("public constructor", Modifier.isPublic(constructors[0].getModifiers()), true);
    }

    private static void members() {
        Set<String> names = new TreeSet<>();
        FACE.forEach(call -> names.add(call.substring(call.indexOf(' ') + 1, call.indexOf('('))));
        List<Class<?>> classes = List.of(StarDays.class.getDeclaredClasses());
        CHECKS.due("at most twelve classes", classes.size() < 12, true);
        for (Method method : StarDays.class.getDeclaredMethods()) {
            int kind = method.getModifiers();
            CHECKS.due(method + " is public or private", Modifier.isPublic(kind) || Modifier.isPrivate(kind), true);
            CHECKS.due(method + " bears a public name", Modifier.isPrivate(kind) && names.contains(method.getName()), false);
        }
        fields(StarDays.class);
        for (Class<?> inside : classes) {
            CHECKS.due(inside + " is static", Modifier.isStatic(inside.getModifiers()), true);
            CHECKS.due(inside + " is public", Modifier.isPublic(inside.getModifiers()), false);
            CHECKS.due(inside + " holds classes", inside.getDeclaredClasses().length, 0);
            fields(inside);
            for (Method method : inside.getDeclaredMethods()) {
                CHECKS.due(method + " bears a public name", names.contains(method.getName()), false);
                CHECKS.due(method + " has too many parameters", method.getParameterCount() > 7, false);
            }
        }
    }

    private static void fields(Class<?> holder) {
        int own = 0;
        for (Field field : holder.getDeclaredFields()) {
            int kind = field.getModifiers();
            if (Modifier.isStatic(kind)) {
                CHECKS.due(field + " is final", Modifier.isFinal(kind), true);
            } else {
                own++;
            }
            if (holder == StarDays.class && !field.getName().equals("NONE")) {
                CHECKS.due(field + " is private", Modifier.isPrivate(kind), true);
            }
        }
        CHECKS.due("fields of " + holder + ": " + own, own <= 20, true);
    }

    private static void text(String source) {
        String code = source.replaceAll("/\\*(?s:.*?)\\*/", "").replaceAll("//.*", "");
        String words = "throw|throws|try|catch|finally|synchronized|assert|package|while|Exact|equals|hashCode|toString";
        Matcher forbidden = Pattern.compile("\\b(" + words + ")\\b|->|::|\\w+Exact\\b").matcher(code);
        CHECKS.due("a forbidden word", forbidden.find(), false);
        Matcher imports = Pattern.compile("import (.*);").matcher(code);
        while (imports.find()) {
            CHECKS.due("import " + imports.group(1), imports.group(1).equals("java.util.Arrays"), true);
        }
        library(code);
        methodsAreShort(code);
        CHECKS.due("signs are below 128", source.chars().allMatch(sign -> sign < 128), true);
    }

    /** Of the library's classes the functions of rule 4 alone, and none of their constants. */
    private static void library(String code) {
        Set<String> listed = Set.of(
            "Integer.bitCount(", "Long.bitCount(", "Math.max(", "Math.min(", "Math.abs(", "Math.floorMod(",
            "Math.floorDiv(", "Integer.compare(", "Long.compare(", "Arrays.fill(", "Arrays.copyOf(",
            "Arrays.copyOfRange(", "System.arraycopy(");
        Matcher used = Pattern.compile("\\b(Integer|Long|Math|Arrays|System|Character|Byte|Short|Boolean|Objects|Double|Float)"
            + "\\.\\w+\\(?").matcher(code.replaceAll("import .*;", ""));
        while (used.find()) {
            CHECKS.due("of the library " + used.group(), listed.contains(used.group()), true);
        }
    }

    private static void methodsAreShort(String code) {
        int from = 0;
        String[] lines = code.split("\n");
        for (int i = 0; i < lines.length; i++) {
            if (lines[i].matches(" {4,8}\\S.*\\) \\{") && !lines[i].contains(" class ")) {
                from = i;
            }
            if (lines[i].matches(" {4,8}\\}") && from > 0) {
                CHECKS.due("too long: " + lines[from].trim(), i - from > 60, false);
                from = 0;
            }
        }
    }
}
