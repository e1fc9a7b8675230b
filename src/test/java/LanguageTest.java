import java.io.IOException;
import java.lang.reflect.Constructor;
import java.lang.reflect.Executable;
import java.lang.reflect.Field;
import java.lang.reflect.Method;
import java.lang.reflect.Modifier;
import java.nio.file.Files;
import java.nio.file.Path;
import java.util.Arrays;
import java.util.Set;
import java.util.TreeSet;
import java.util.regex.Matcher;
import java.util.regex.Pattern;
import java.util.stream.Collectors;

/** The class has the document's face and no more, and keeps to those rules of LANGUAGE.md that can be seen. */
public final class LanguageTest {
    private static final String[] FACE = {
        "PusherRoom()",
        "boolean isReplayed() IllegalStateException",
        "char cell(int,int) IllegalStateException IndexOutOfBoundsException",
        "char recorded(int) IndexOutOfBoundsException",
        "int bound() IllegalStateException NoSuchElementException",
        "int count(int) IllegalArgumentException",
        "int distance(int,int) IllegalStateException IndexOutOfBoundsException NoSuchElementException",
        "int feed(char) IllegalArgumentException IllegalStateException",
        "int finish(int) IllegalArgumentException IllegalStateException ArithmeticException NoSuchElementException",
        "int goalRoom(int,int) IllegalStateException NoSuchElementException",
        "int longPush(int,int) IllegalArgumentException IllegalStateException IndexOutOfBoundsException"
            + " UnsupportedOperationException ArithmeticException",
        "int play() IllegalStateException UnsupportedOperationException ArithmeticException",
        "int push(int,int) IllegalArgumentException IllegalStateException IndexOutOfBoundsException"
            + " UnsupportedOperationException ArithmeticException",
        "int readRoom() ArithmeticException",
        "int refusal(boolean) NoSuchElementException",
        "int refused() NoSuchElementException",
        "int refuses(int,int) IllegalArgumentException IllegalStateException IndexOutOfBoundsException",
        "int restoreSnapshot() IllegalStateException",
        "int saveSnapshot() IllegalStateException",
        "int solution(int,boolean) NoSuchElementException",
        "int solve(int,boolean) IllegalArgumentException IllegalStateException ArithmeticException NoSuchElementException",
        "int step(int) IllegalArgumentException IllegalStateException UnsupportedOperationException",
        "int stuck(boolean) IllegalStateException",
        "int undo() IllegalStateException",
        "long cells(int) IllegalStateException IllegalArgumentException",
    };

    private static final String[] FORBIDDEN = {
        "\\btry\\b", "\\bcatch\\b", "\\bfinally\\b", "\\bsynchronized\\b", "\\bassert\\b", "\\bvolatile\\b", "->", "::",
        "\\bstatic\\s*\\{", "Exact\\s*\\(", "\\bSystem\\b(?!\\.arraycopy)", "\\bRandom\\b", "\\bThread\\b", "\\bprotected\\b",
        "\\bpackage\\b", "\\bequals\\b", "\\bhashCode\\b", "\\btoString\\b", "\"\\s*\\+", "\\+\\s*\"",
    };

    private static final Check CHECK = new Check();

    public static void main(String[] args) throws IOException {
        face();
        privateNames();
        source(Files.readString(Path.of("src/main/java/PusherRoom.java")));
        CHECK.end("LanguageTest");
    }

    private static void face() {
        Set<String> found = new TreeSet<>();
        for (Constructor<?> c : PusherRoom.class.getDeclaredConstructors()) {
            if (!Modifier.isPrivate(c.getModifiers())) {
                found.add("PusherRoom(" + types(c) + ")" + exceptions(c));
            }
        }
        for (Method m : PusherRoom.class.getDeclaredMethods()) {
            if (!Modifier.isPrivate(m.getModifiers())) {
                found.add(m.getReturnType().getSimpleName() + " " + m.getName() + "(" + types(m) + ")" + exceptions(m));
                CHECK.due(m.getName() + " is public and of the object", Modifier.PUBLIC, m::getModifiers);
            }
        }
        CHECK.due("the face", new TreeSet<>(Arrays.asList(FACE)), () -> found);
        CHECK.due("the class", Modifier.PUBLIC | Modifier.FINAL, PusherRoom.class::getModifiers);
        for (Field f : PusherRoom.class.getDeclaredFields()) {
            CHECK.due(f.getName() + " is private", true, () -> Modifier.isPrivate(f.getModifiers()));
            CHECK.due(f.getName() + " is final if it is static", true,
                    () -> !Modifier.isStatic(f.getModifiers()) || Modifier.isFinal(f.getModifiers()));
        }
    }

    private static String types(Executable e) {
        return Arrays.stream(e.getParameterTypes()).map(Class::getSimpleName).collect(Collectors.joining(","));
    }

    private static String exceptions(Executable e) {
        return Arrays.stream(e.getExceptionTypes()).map(t -> " " + t.getSimpleName()).collect(Collectors.joining());
    }

    private static void privateNames() {
        Set<String> face = Arrays.stream(FACE).map(s -> s.replaceAll(".* (\\w+)\\(.*", "$1")).collect(Collectors.toSet());
        for (Class<?> inside : PusherRoom.class.getDeclaredClasses()) {
            CHECK.due(inside.getSimpleName() + " is static", true, () -> Modifier.isStatic(inside.getModifiers()));
            CHECK.due(inside.getSimpleName() + " has at most 20 fields", true, () -> inside.getDeclaredFields().length <= 20);
            for (Method m : inside.getDeclaredMethods()) {
                CHECK.due(m.getName() + " is no public name", false, () -> face.contains(m.getName()));
            }
        }
        for (Method m : PusherRoom.class.getDeclaredMethods()) {
            CHECK.due(m.getName() + " is public or no public name", false,
                    () -> Modifier.isPrivate(m.getModifiers()) && face.contains(m.getName()));
            CHECK.due(m.getName() + " has at most 7 parameters", true, () -> m.getParameterCount() <= 7);
        }
        CHECK.due("at most 12 classes", true, () -> PusherRoom.class.getDeclaredClasses().length < 12);
    }

    private static void source(String text) {
        String imports = Pattern.compile("^import .*$", Pattern.MULTILINE).matcher(text).results()
                .map(r -> r.group()).collect(Collectors.joining("\n"));
        CHECK.due("imports", "import java.util.NoSuchElementException;", () -> imports);
        CHECK.due("all signs are ASCII", true, () -> text.chars().allMatch(c -> c < 127));
        String code = text.replaceAll("(?s)/\\*.*?\\*/", "").replaceAll("//[^\n]*", "")
                .replaceAll("\"[^\"\n]*\"", "\"\"");
        for (String forbidden : FORBIDDEN) {
            CHECK.due(forbidden + " is not used", false, () -> Pattern.compile(forbidden).matcher(code).find());
        }
        Matcher library = Pattern.compile("\\b(Long|Math|Integer|LETTERS|CELL_SIGNS)\\.(\\w+)").matcher(code);
        Set<String> used = new TreeSet<>();
        while (library.find()) {
            used.add(library.group());
        }
        CHECK.due("the library that is used",
                "[CELL_SIGNS.indexOf, LETTERS.charAt, LETTERS.indexOf, LETTERS.length, Long.bitCount, Math.max]", () -> used);
        methodsAreShort(code);
    }

    private static void methodsAreShort(String code) {
        String[] lines = code.split("\n");
        for (int i = 0; i < lines.length; i++) {
            Matcher head = Pattern.compile("^( {4}| {8})[^ }].*\\)[^;]*\\{$").matcher(lines[i]);
            if (head.find()) {
                int end = i;
                while (end < lines.length && !lines[end].equals(head.group(1) + "}")) {
                    end++;
                }
                int length = end - i;
                CHECK.due("the method at " + lines[i].trim() + " is short", true, () -> length <= 60);
            }
        }
    }
}
