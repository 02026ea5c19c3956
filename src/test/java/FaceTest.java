import java.io.IOException;
import java.lang.reflect.Constructor;
import java.lang.reflect.Field;
import java.lang.reflect.Method;
import java.lang.reflect.Modifier;
import java.nio.file.Files;
import java.nio.file.Path;
import java.util.Set;
import java.util.TreeSet;
import java.util.regex.Matcher;
import java.util.regex.Pattern;

/** The public face as the document writes it, and those rules of LANGUAGE.md that can be seen from outside. */
public final class FaceTest {
    private static final Checks is = new Checks();
    private static final Set<String> FACE = Set.of(
        "int write(int,long)", "int wipe()", "int fault()", "int lay()", "int door(int,int)", "int lodger(int,int)",
        "int grudge(int,int)", "int go(int,int,boolean)", "int oil(int)", "int night(int)", "int undo()",
        "int way(int,int,int)", "int first(int,int,int)", "int inTime(int,int)", "int rooms(int)",
        "int behind(int,int,int)", "int worst(int,int)", "int stop(int,int,int,int)",
        "int how(int,int,int,int,int)", "int fresh(int)", "int week(int,int,int)", "int keep()", "int back()",
        "int count(int)");
    private static final Set<String> CONSTANTS = Set.of("BAD", "NO", "FULL", "NONE");

    public static void main(String[] args) throws IOException {
        face();
        inside();
        source(Files.readString(Path.of("src/main/java/DoorsThatRemember.java")));
        is.close();
    }

    private static String headOf(Method m) {
        StringBuilder head = new StringBuilder(m.getReturnType().getName()).append(' ').append(m.getName()).append('(');
        Class<?>[] types = m.getParameterTypes();
        for (int k = 0; k < types.length; k++) {
            head.append(k > 0 ? "," : "").append(types[k].getName());
        }
        return head.append(')').toString();
    }

    private static void face() {
        Class<?> c = DoorsThatRemember.class;
        is.due("the class is public and final", Modifier.isPublic(c.getModifiers()) && Modifier.isFinal(c.getModifiers()));
        Set<String> found = new TreeSet<>();
        Set<String> names = new TreeSet<>();
        for (Method m : c.getDeclaredMethods()) {
            if (Modifier.isPublic(m.getModifiers())) {
                found.add(headOf(m));
                names.add(m.getName());
                is.due(m + " is no static one", !Modifier.isStatic(m.getModifiers()));
                is.due(m + " declares no exception", m.getExceptionTypes().length, 0);
            }
        }
        is.due("the public methods: " + found, found.equals(FACE));
        for (Method m : c.getDeclaredMethods()) {
            if (!Modifier.isPublic(m.getModifiers())) {
                is.due(m + " is private", Modifier.isPrivate(m.getModifiers()));
                is.due(m + " bears no public name", !names.contains(m.getName()));
            }
        }
        for (Field f : c.getDeclaredFields()) {
            boolean told = CONSTANTS.contains(f.getName());
            is.due(f + " is public or private", told ? Modifier.isPublic(f.getModifiers()) : Modifier.isPrivate(f.getModifiers()));
            is.due(f + ", if static, is final", !Modifier.isStatic(f.getModifiers()) || Modifier.isFinal(f.getModifiers()));
        }
        Constructor<?>[] made = c.getDeclaredConstructors();
        is.due("one constructor", made.length, 1);
        is.due("it takes nothing", made[0].getParameterCount(), 0);
        is.due("it is public", Modifier.isPublic(made[0].getModifiers()));
    }

    private static void inside() {
        Set<String> names = new TreeSet<>();
        for (String head : FACE) {
            names.add(head.substring(head.indexOf(' ') + 1, head.indexOf('(')));
        }
        Class<?>[] all = DoorsThatRemember.class.getDeclaredClasses();
        is.due("some twelve classes", all.length < 12);
        for (Class<?> c : all) {
            is.due(c + " is static", Modifier.isStatic(c.getModifiers()));
            is.due(c + " is not public", !Modifier.isPublic(c.getModifiers()));
            is.due(c + " has some twenty fields", c.getDeclaredFields().length <= 20);
            for (Method m : c.getDeclaredMethods()) {
                is.due(m + " bears no public name", !names.contains(m.getName()));
                is.due(m + " takes at most seven", m.getParameterCount() <= 7);
            }
        }
    }

    private static void source(String code) {
        String bare = code.replaceAll("(?s)/\\*.*?\\*/", "").replaceAll("//[^\n]*", "");
        String[] never = {"import", "package", "->", "::", "\\btry\\b", "\\bcatch\\b", "\\bthrow\\b", "\\bfinally\\b",
            "\\bsynchronized\\b", "\\bassert\\b", "\\bwhile\\s*\\(true\\)", "for\\s*\\(\\s*;\\s*;", "static\\s*\\{", "\"",
            "\\bdouble\\b", "\\bfloat\\b", "Exact\\b", "\\bthread\\b"};
        for (String word : never) {
            is.due("no " + word, !Pattern.compile(word, Pattern.CASE_INSENSITIVE).matcher(bare).find());
        }
        // every index but those of loops that are bounded by the row's own length goes by at() and put()
        Matcher index = Pattern.compile("\\w+\\[[^\\]]+\\]").matcher(bare);
        Set<String> bounded = Set.of("row[k]", "from[k]", "to[k]", "slots[k]", "slots[k - 1]", "slots[0]",
            "slots[slots.length - 1]");
        while (index.find()) {
            String found = index.group();
            boolean made = found.startsWith("int[MOST_") || found.equals("House[Math.max(0, most)]");
            is.due("an index that is not looked at: " + found, made || bounded.contains(found));
        }
        int lines = 0;
        for (String line : code.split("\n")) {
            lines = line.matches(" {4,8}(public|private|int|boolean|void|Past)[^;=]*\\{") ? 0 : lines + 1;
            is.due("a method of some sixty lines, no more: " + line, lines <= 60 || line.isBlank());
            is.due("a line of 120 signs at most: " + line, line.length() <= 120);
        }
    }
}
