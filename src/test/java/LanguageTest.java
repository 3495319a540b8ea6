import java.io.IOException;
import java.lang.reflect.Constructor;
import java.lang.reflect.Field;
import java.lang.reflect.Method;
import java.lang.reflect.Modifier;
import java.nio.file.Files;
import java.nio.file.Path;
import java.util.ArrayList;
import java.util.Arrays;
import java.util.Collections;
import java.util.List;
import java.util.regex.Matcher;
import java.util.regex.Pattern;

/** The face of the class, and those rules of LANGUAGE.md that can be read off it and its file. */
public final class LanguageTest {
    private static final Check CHECK = new Check();
    private static final List<String> FACE = List.of(
        "int feed(int, int, int, int, int)", "int vote(int, int)", "int fault(int)", "boolean undo(int)", "int pass(int)",
        "int farm(int)", "int note(int, int, int, int)", "int worth(int, int, int, int)", "int law(int, int, int)",
        "int fire(int, int)", "int judge(int, int) IndexOutOfBoundsException NoSuchElementException",
        "boolean say(int, int, int, int)", "boolean close(int)",
        "int look(int, int) IndexOutOfBoundsException NoSuchElementException", "long award(int, int, int)",
        "long call(int, int, int)", "int book()", "long booked(int, int)", "long account(int) NoSuchElementException",
        "int count(int)");
    private static final String[] BANNED = {
        "\\bcatch\\b", "\\btry\\b", "\\bfinally\\b", "\\bsynchronized\\b", "\\bassert\\b", "->", "::", "Exact\\b",
        "\\bdouble\\b", "\\bfloat\\b", "\\bSystem\\.(?!arraycopy)", "\\bThread\\b", "\\bextends\\b", "\\brecord\\b",
        "\\bwhile \\(true\\)", "for \\(;;\\)", "\\bprotected\\b"
    };

    public static void main(String[] args) throws IOException {
        face();
        nestedClasses();
        source();
        CHECK.end();
    }

    private static void face() {
        List<String> found = new ArrayList<>();
        List<String> names = new ArrayList<>();
        for (Method m : FireMutual.class.getDeclaredMethods()) {
            if (!Modifier.isPrivate(m.getModifiers())) {
                found.add(shown(m));
                names.add(m.getName());
            }
        }
        List<String> due = new ArrayList<>(FACE);
        Collections.sort(due);
        Collections.sort(found);
        CHECK.due("the methods are " + found, found.equals(due), true);
        for (Method m : FireMutual.class.getDeclaredMethods()) {
            if (Modifier.isPrivate(m.getModifiers())) {
                CHECK.due("private " + m.getName() + " bears a public name", names.contains(m.getName()), false);
            }
        }
        for (Field f : FireMutual.class.getDeclaredFields()) {
            boolean none = f.getName().equals("NONE") && Modifier.isPublic(f.getModifiers());
            CHECK.due("field " + f.getName(), none || Modifier.isPrivate(f.getModifiers()), true);
        }
        Constructor<?>[] constructors = FireMutual.class.getDeclaredConstructors();
        CHECK.due("constructors", constructors.length, 1);
        CHECK.due("public, of none", Modifier.isPublic(constructors[0].getModifiers()) && constructors[0].getParameterCount() == 0, true);
        CHECK.due("public final", FireMutual.class.getModifiers(), Modifier.PUBLIC | Modifier.FINAL);
    }

    private static String shown(Method m) {
        StringBuilder s = new StringBuilder(m.getReturnType() + " " + m.getName() + "(");
        s.append(String.join(", ", Arrays.stream(m.getParameterTypes()).map(Class::getSimpleName).toList())).append(')');
        for (Class<?> e : m.getExceptionTypes()) {
            s.append(' ').append(e.getSimpleName());
        }
        return s.toString();
    }

    private static void nestedClasses() {
        Class<?>[] nested = FireMutual.class.getDeclaredClasses();
        CHECK.due("at most twelve classes", nested.length < 12, true);
        for (Class<?> c : nested) {
            CHECK.due(c.getName() + " is static", Modifier.isStatic(c.getModifiers()), true);
            CHECK.due(c.getName() + " is not public", Modifier.isPublic(c.getModifiers()), false);
            int fields = 0;
            for (Field f : c.getDeclaredFields()) {
                boolean constant = Modifier.isStatic(f.getModifiers());
                CHECK.due(c.getName() + "." + f.getName() + ", static, is final", !constant || Modifier.isFinal(f.getModifiers()), true);
                fields += constant ? 0 : 1;
            }
            CHECK.due(c.getName() + " has at most twenty fields", fields <= 20, true);
            for (Method m : c.getDeclaredMethods()) {
                CHECK.due(m + " takes at most seven", m.getParameterCount() <= 7, true);
                boolean hidden = Modifier.isPrivate(m.getModifiers());
                boolean face = FACE.stream().anyMatch(f -> f.contains(" " + m.getName() + "("));
                CHECK.due(m + " bears a public name", hidden && face, false);
            }
        }
    }

    private static void source() throws IOException {
        String text = Files.readString(Path.of("src/main/java/FireMutual.java"));
        CHECK.due("signs beyond 127", text.chars().filter(c -> c > 127).count(), 0);
        String code = text.replaceAll("\"[^\"]*\"", "\"\"").replaceAll("(?s)/\\*.*?\\*/", "").replaceAll("//[^\n]*", "");
        for (String banned : BANNED) {
            Matcher m = Pattern.compile(banned).matcher(code);
            CHECK.due("'" + banned + "' stands in the class", m.find(), false);
        }
        Matcher imports = Pattern.compile("(?m)^import (.*);").matcher(code);
        while (imports.find()) {
            CHECK.due("import " + imports.group(1), imports.group(1).equals("java.util.NoSuchElementException"), true);
        }
        CHECK.due("no package", code.contains("package "), false);
        methodsAreShort(code);
    }

    private static void methodsAreShort(String code) {
        int opened = 0;
        int line = 0;
        for (String l : code.split("\n")) {
            line++;
            boolean head = l.matches(" {4}(?: {4})?[a-zA-Z].*\\).*\\{");
            boolean end = l.matches(" {4}(?: {4})?}");
            opened = head ? line : opened;
            CHECK.due("the method of line " + opened + " is short", !end || line - opened <= 60, true);
        }
    }
}
