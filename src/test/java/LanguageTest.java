import java.lang.management.ManagementFactory;
import java.lang.reflect.Constructor;
import java.lang.reflect.Field;
import java.lang.reflect.Method;
import java.lang.reflect.Modifier;
import java.nio.file.Files;
import java.nio.file.Path;
import java.util.Arrays;
import java.util.Set;
import java.util.TreeSet;
import java.util.regex.Matcher;
import java.util.regex.Pattern;

/** The face, the words that LANGUAGE.md rules out, and the room that calls take. */
public final class LanguageTest {
    private static final Path SOURCE = Path.of("src", "main", "java", "PicturePath.java");
    /** As many as leave room, within 512, for those that make the path. */
    private static final int CALLS = 500;
    private static final long MOST_BYTES_A_CALL = 200;
    private static final long MOST_BYTES_AN_OBJECT = 20_000;

    private static final Dues dues = new Dues();

    public static void main(String[] args) throws Exception {
        faceIsTheDocuments();
        privateMethodsHaveNamesOfTheirOwn();
        nestedClassesArePrivateAndStatic();
        sourceHasNoForbiddenWord();
        callsTakeLittleRoom();
        dues.end();
    }

    private static void faceIsTheDocuments() {
        Set<String> want = new TreeSet<>(Arrays.asList(
            "int NONE", "int UNKNOWN", "int OUTSIDE", "int STATE", "int FULL", "PicturePath()",
            "int size(int, int)", "int cell(int, int, int)", "int dead(int, int, boolean)", "int black(int)",
            "int gain(int, int, int)", "int step(int)", "int entry(int, int)", "int matrix()",
            "int point(int, int)", "int curve()", "int undo()", "int kind(int)", "int stage(int, int)",
            "int at(int, int, int, int)", "int part(int, int, int, int, int)", "int needs(int, int, int, int)",
            "int counts(int, int, int, int, int)", "int bound(int, int)", "int count(int)", "long digest()"));
        Set<String> got = new TreeSet<>();
        for (Field f : PicturePath.class.getDeclaredFields()) {
            if (!Modifier.isPrivate(f.getModifiers())) {
                got.add(f.getType() + " " + f.getName());
                dues.holds("a constant " + f, Modifier.isStatic(f.getModifiers()) && Modifier.isFinal(f.getModifiers()));
            }
            if (Modifier.isStatic(f.getModifiers())) {
                dues.holds("final " + f, Modifier.isFinal(f.getModifiers()));
            }
        }
        for (Constructor<?> c : PicturePath.class.getDeclaredConstructors()) {
            got.add(c.getName() + listed(c.getParameterTypes()));
        }
        for (Method m : PicturePath.class.getDeclaredMethods()) {
            if (!Modifier.isPrivate(m.getModifiers())) {
                got.add(m.getReturnType() + " " + m.getName() + listed(m.getParameterTypes()));
                dues.holds("public, of an object " + m, m.getModifiers() == Modifier.PUBLIC);
            }
        }
        dues.holds("face " + got, got.equals(want));
        dues.due("class", PicturePath.class.getModifiers(), Modifier.PUBLIC | Modifier.FINAL);
    }

    private static String listed(Class<?>[] types) {
        StringBuilder names = new StringBuilder("(");
        for (Class<?> type : types) {
            names.append(names.length() > 1 ? ", " : "").append(type.getName());
        }
        return names.append(")").toString();
    }

    private static void privateMethodsHaveNamesOfTheirOwn() {
        Set<String> face = new TreeSet<>();
        for (Method m : PicturePath.class.getMethods()) {
            face.add(m.getName());
        }
        for (Method m : PicturePath.class.getDeclaredMethods()) {
            dues.holds("name " + m, !Modifier.isPrivate(m.getModifiers()) || !face.contains(m.getName()));
        }
        for (Class<?> nested : PicturePath.class.getDeclaredClasses()) {
            for (Method m : nested.getDeclaredMethods()) {
                dues.holds("name " + m, !face.contains(m.getName()));
                dues.holds("parameters of " + m, m.getParameterCount() <= 7);
            }
        }
    }

    private static void nestedClassesArePrivateAndStatic() {
        Class<?>[] nested = PicturePath.class.getDeclaredClasses();
        dues.holds("few classes", nested.length <= 11);
        for (Class<?> c : nested) {
            dues.holds("static " + c, Modifier.isStatic(c.getModifiers()) && !Modifier.isPublic(c.getModifiers()));
            dues.holds("few fields " + c, c.getDeclaredFields().length <= 20);
        }
    }

    private static void sourceHasNoForbiddenWord() throws Exception {
        String source = Files.readString(SOURCE);
        String code = source.replaceAll("(?s)/\\*.*?\\*/", " ").replaceAll("//[^\n]*", " ");
        String words = "\\b(throw|throws|try|catch|finally|synchronized|assert|package|equals|hashCode|toString"
            + "|\\w+Exact|Object|Random|Thread|native|volatile|System\\.(?!arraycopy)\\w+)\\b|->|::";
        Matcher found = Pattern.compile(words).matcher(code);
        dues.holds("no forbidden word", !found.find());
        Matcher imports = Pattern.compile("\\bimport\\s+([^;]+);").matcher(code);
        while (imports.find()) {
            dues.holds("import " + imports.group(1), imports.group(1).equals("java.util.Arrays"));
        }
    }

    private static void callsTakeLittleRoom() {
        com.sun.management.ThreadMXBean room = (com.sun.management.ThreadMXBean) ManagementFactory.getThreadMXBean();
        dearCalls(longPath());
        long start = room.getCurrentThreadAllocatedBytes();
        PicturePath p = longPath();
        long made = room.getCurrentThreadAllocatedBytes();
        dearCalls(p);
        long end = room.getCurrentThreadAllocatedBytes();
        dues.holds("room of an object: " + (made - start), made - start <= MOST_BYTES_AN_OBJECT);
        dues.holds("room of calls: " + (end - made), end - made <= CALLS * MOST_BYTES_A_CALL);
    }

    private static PicturePath longPath() {
        PicturePath p = new PicturePath();
        p.size(16, 16);
        p.gain(1, 1, 1);
        p.step(2);
        p.step(3);
        p.step(4);
        p.matrix();
        p.curve();
        p.step(7);
        return p;
    }

    private static void dearCalls(PicturePath p) {
        for (int i = 0; i < CALLS / 4; i++) {
            p.digest();
            p.bound(0, 0);
            p.part(0, 0, 8, 8, 2);
            p.needs(0, 0, 8, 8);
        }
    }
}
