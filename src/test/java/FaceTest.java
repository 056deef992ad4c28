import java.io.IOException;
import java.lang.reflect.Constructor;
import java.lang.reflect.Field;
import java.lang.reflect.Member;
import java.lang.reflect.Method;
import java.lang.reflect.Modifier;
import java.nio.file.Files;
import java.nio.file.Path;
import java.util.ArrayList;
import java.util.Arrays;
import java.util.HashSet;
import java.util.List;
import java.util.Set;
import java.util.TreeSet;
import java.util.regex.Pattern;

/** The document's public face, and those rules of the language that can be seen from outside. */
public final class FaceTest {
    private static final Path SOURCE = Path.of("src/main/java/LineEvents.java");
    private static final String OUTSIDE = " throws java.lang.ArrayIndexOutOfBoundsException";
    private static final List<String> FACE = List.of(
        "public static final int LineEvents.NONE",
        "public static final int LineEvents.FULL",
        "public LineEvents(long)",
        "public int LineEvents.machine(int,int)",
        "public int LineEvents.buffer(int,int,int)",
        "public boolean LineEvents.fault(int,long,long,int)",
        "public boolean LineEvents.row(int,int,int,int)",
        "public int LineEvents.run(int)",
        "public int LineEvents.event(int,int)",
        "public long LineEvents.made()",
        "public long LineEvents.inside()",
        "public long LineEvents.lost(int,int)" + OUTSIDE,
        "public long LineEvents.rejected(int)" + OUTSIDE,
        "public boolean LineEvents.change(int,int)",
        "public boolean LineEvents.rest(int,int)",
        "public long LineEvents.time(int,int)" + OUTSIDE,
        "public boolean LineEvents.kept()");
    private static final List<String> BANNED_WORDS = List.of(
        "import", "package", "synchronized", "assert", "finally", "try", "catch", "Random", "System\\.nano\\w+",
        "System\\.current\\w+", "Thread", "double", "float", "Object", "\\w+Exact");
    private static final Due due = new Due();

    public static void main(String[] args) throws IOException {
        face();
        staticFields();
        insideClasses();
        names();
        source();
        due.end();
    }

    private static void face() {
        due.is("modifiers of the class", Modifier.PUBLIC | Modifier.FINAL, LineEvents.class.getModifiers());
        Set<String> open = new TreeSet<>();
        for (Field f : LineEvents.class.getDeclaredFields()) {
            addOpen(open, f, f.toString());
        }
        for (Constructor<?> c : LineEvents.class.getDeclaredConstructors()) {
            addOpen(open, c, c.toString());
        }
        for (Method m : LineEvents.class.getDeclaredMethods()) {
            addOpen(open, m, m.toString());
        }
        Set<String> more = new TreeSet<>(open);
        more.removeAll(FACE);
        Set<String> missing = new TreeSet<>(FACE);
        missing.removeAll(open);
        due.is("members beside the face: " + more, 0, more.size());
        due.is("members that are missing: " + missing, 0, missing.size());
    }

    private static void addOpen(Set<String> open, Member member, String text) {
        if (!Modifier.isPrivate(member.getModifiers())) {
            open.add(text);
        }
    }

    private static void staticFields() {
        for (Class<?> c : classes()) {
            for (Field f : c.getDeclaredFields()) {
                if (Modifier.isStatic(f.getModifiers())) {
                    due.yes(f + " is final", Modifier.isFinal(f.getModifiers()));
                }
            }
        }
    }

    private static List<Class<?>> classes() {
        List<Class<?>> all = new ArrayList<>(Arrays.asList(LineEvents.class.getDeclaredClasses()));
        all.add(LineEvents.class);
        return all;
    }

    private static void insideClasses() {
        due.yes("at most twelve classes", classes().size() <= 12);
        for (Class<?> c : LineEvents.class.getDeclaredClasses()) {
            due.yes(c + " is static", Modifier.isStatic(c.getModifiers()));
            due.no(c + " is public", Modifier.isPublic(c.getModifiers()));
        }
        for (Class<?> c : classes()) {
            long fields = Arrays.stream(c.getDeclaredFields()).filter(f -> !Modifier.isStatic(f.getModifiers())).count();
            due.yes(c + " has at most twenty fields", fields <= 20);
        }
    }

    private static void names() {
        Set<String> face = new HashSet<>();
        for (Method m : LineEvents.class.getMethods()) {
            if (m.getDeclaringClass() == LineEvents.class) {
                face.add(m.getName());
            }
        }
        for (Class<?> c : classes()) {
            for (Method m : c.getDeclaredMethods()) {
                boolean ofTheFace = c == LineEvents.class && Modifier.isPublic(m.getModifiers());
                due.yes(m + " bears a name of its own", ofTheFace || !face.contains(m.getName()));
                due.yes(m + " takes at most seven parameters", m.getParameterCount() <= 7);
            }
        }
    }

    private static void source() throws IOException {
        String code = Files.readString(SOURCE).replaceAll("(?s)/\\*.*?\\*/", "").replaceAll("//[^\n]*", "");
        for (String word : BANNED_WORDS) {
            due.no("the source uses " + word, Pattern.compile("\\b" + word + "\\b").matcher(code).find());
        }
        due.no("the source has a lambda", code.contains("->"));
        due.no("the source has a method reference", code.contains("::"));
    }
}
