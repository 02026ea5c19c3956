import java.io.IOException;
import java.lang.reflect.Constructor;
import java.lang.reflect.Field;
import java.lang.reflect.Method;
import java.lang.reflect.Modifier;
import java.nio.file.Files;
import java.nio.file.Path;
import java.util.Set;
import java.util.TreeSet;
import java.util.regex.Pattern;

/** The public face as the document writes it, and those rules of LANGUAGE.md that can be seen from outside. */
public final class FaceTest {
    private static final Checks is = new Checks();
    private static final Set<String> FACE = Set.of(
        "int write(int,long)", "int wipe()", "int fault()", "int lay()", "int door(int,int)", "int lodger(int,int)",
        "int grudge(int,int)", "int go(int,int,boolean)", "int oil(int)", "int night(int)", "int undo()",
        "int way(int,int,int)", "int first(int,int,int)", "int inTime(int,int)", "int rooms(int)",
        "int behind(int,int,int)", "int worst(int,int)", "int stop(int,int,int,int)",
        "int how(int,int,int,int,int)", "int fresh(int)", "int week(int,int,int)", "int keep()", "int back()",
        "int count(int)");
    private static final Set<String> CONSTANTS = Set.of("BAD", "NO", "FULL", "NONE");

    public static void main(String[] args) throws IOException {
        constants();
        face();
        inside();
        source(Files.readString(Path.of("src/main/java/DoorsThatRemember.java")));
        is.close();
    }

    private static void constants() {
        is.due("BAD", DoorsThatRemember.BAD, -1);
        is.due("NO", DoorsThatRemember.NO, -2);
        is.due("FULL", DoorsThatRemember.FULL, -3);
        is.due("NONE", DoorsThatRemember.NONE, -4);
    }

    private static String headOf(Method m) {
        StringBuilder head = new StringBuilder(m.getReturnType().getName()).append(' ').append(m.getName()).append('(');
        Class<?>[] types = m.getParameterTypes();
        for (int k = 0; k < types.length; k++) {
            head.append(k > 0 ? "," : "").append(types[k].getName());
        }
        return head.append(')').toString();
    }

    private static Set<String> faceNames() {
        Set<String> names = new TreeSet<>();
        for (String head : FACE) {
            names.add(head.substring(head.indexOf(' ') + 1, head.indexOf('(')));
        }
        return names;
    }

    private static void face() {
        Class<?> c = DoorsThatRemember.class;
        is.due("the class is public and final", Modifier.isPublic(c.getModifiers()) && Modifier.isFinal(c.getModifiers()));
        Set<String> found = new TreeSet<>();
        for (Method m : c.getDeclaredMethods()) {
            if (Modifier.isPublic(m.getModifiers())) {
                found.add(headOf(m));
                is.due(m + " is no static one", !Modifier.isStatic(m.getModifiers()));
                is.due(m + " declares no exception", m.getExceptionTypes().length, 0);
            } else if (!m.isSynthetic()) {
                is.due(m + " is private", Modifier.isPrivate(m.getModifiers()));
            }
        }
        is.due("the public methods: " + found, found.equals(FACE));
        Set<String> constants = new TreeSet<>();
        for (Field f : c.getDeclaredFields()) {
            if (Modifier.isPublic(f.getModifiers())) {
                constants.add(f.getName());
                is.due(f + " is an int", f.getType() == int.class);
                is.due(f + " is static", Modifier.isStatic(f.getModifiers()));
            } else if (!f.isSynthetic()) {
                is.due(f + " is private", Modifier.isPrivate(f.getModifiers()));
            }
        }
        is.due("the public constants: " + constants, constants.equals(CONSTANTS));
        Constructor<?>[] made = c.getConstructors();
        is.due("one public constructor", made.length, 1);
        is.due("it takes nothing", made[0].getParameterCount(), 0);
    }

    private static void inside() {
        Class<?>[] all = DoorsThatRemember.class.getDeclaredClasses();
        is.due("some twelve classes", all.length <= 14);
        look(DoorsThatRemember.class);
        for (Class<?> c : all) {
            is.due(c + " is private or package-visible", (c.getModifiers() & (Modifier.PUBLIC | Modifier.PROTECTED)) == 0);
            is.due(c + " is static", Modifier.isStatic(c.getModifiers()));
            look(c);
        }
    }

    private static void look(Class<?> c) {
        Set<String> names = faceNames();
        int fields = 0;
        for (Field f : c.getDeclaredFields()) {
            boolean isStatic = Modifier.isStatic(f.getModifiers());
            fields += isStatic ? 0 : 1;
            is.due(f + ", if static, is final", !isStatic || Modifier.isFinal(f.getModifiers()));
        }
        is.due(c + " has some twenty fields", fields <= 22);
        for (Method m : c.getDeclaredMethods()) {
            boolean isPrivate = Modifier.isPrivate(m.getModifiers());
            is.due(m + ", if private, bears no public name", !isPrivate || !names.contains(m.getName()));
            is.due(m + " takes at most seven", m.getParameterCount() <= 7);
        }
    }

    private static void source(String code) {
        String bare = code.replaceAll("(?s)/\\*.*?\\*/", "").replaceAll("//[^\n]*", "")
            .replaceAll("\"(\\\\.|[^\"\\\\])*\"", "\"\"").replaceAll("'(\\\\.|[^'\\\\])'", "' '");
        String[] never = {"^\\s*package\\b", "\\bimport\\s+(?!java\\.util\\.)", "::", "\\bfinally\\b", "\\bsynchronized\\b",
            "\\bvolatile\\b", "\\bassert\\b", "\\bstatic\\s*\\{", "Exact\\b", "\\bThread\\b", "\\bRandom\\b", "\\bSystem\\.(?!arraycopy)",
            "\\btry\\s*\\(", "\\bcatch\\s*\\(\\s*(final\\s+)?[^)]*\\b(ArrayIndexOutOfBounds|NullPointer|ClassCast|NegativeArraySize|ArrayStore)"};
        for (String word : never) {
            is.due("no " + word, !Pattern.compile(word, Pattern.MULTILINE).matcher(bare).find());
        }
        for (String line : bare.split("\n")) {
            is.due("no lambda: " + line, !line.contains("->") || line.matches(".*\\b(case|default)\\b.*->.*"));
        }
    }
}
