import java.lang.management.ManagementFactory;
import java.lang.reflect.Constructor;
import java.lang.reflect.Field;
import java.lang.reflect.Method;
import java.lang.reflect.Modifier;
import java.util.Set;
import java.util.TreeSet;

/** The public face, by LANGUAGE.md's rule 1, and the room that the calls of one object may take. */
public final class FaceTest {
    private static final Check CHECK = new Check();

    private static final Set<String> METHODS = Set.of(
            "int feed(int,int,int,int,int)", "int tables(int)", "int fault()", "int count(int)", "int table(int,int)",
            "int column(int,int,int)", "int cell(int,int,int)", "int whose(int,int)", "int conflict(int,int)",
            "boolean set(int,int,int,int)", "boolean insert(int,int)", "boolean delete(int,int)",
            "boolean rename(int,int,int)", "boolean retype(int,int,int)", "int add(int,int,int)", "boolean drop(int,int)",
            "int settle(int,int,int,int)", "int unsettle(int,int,int)", "void flip()", "int commit()", "int undo()",
            "int difference(int,int)", "int along(int,int)", "int alone(int,int)", "int see(int,int,int)", "void forget()",
            "int edited(int)", "int years(int,int,int)", "void image()", "boolean restore()");

    public static void main(String[] args) {
        constants();
        members();
        room();
        CHECK.end();
    }

    private static void constants() {
        CHECK.is("NONE", TableMerge.NONE, -1);
        CHECK.is("EMPTY", TableMerge.EMPTY, 9999);
    }

    private static void members() {
        CHECK.yes("the class is public and final", Modifier.isPublic(TableMerge.class.getModifiers()) && Modifier.isFinal(TableMerge.class.getModifiers()));
        Set<String> shown = new TreeSet<>();
        Set<String> names = new TreeSet<>();
        for (Method m : TableMerge.class.getDeclaredMethods()) {
            if (!Modifier.isPrivate(m.getModifiers()) && !m.isSynthetic()) {
                StringBuilder s = new StringBuilder(m.getReturnType() + " " + m.getName() + "(");
                for (Class<?> p : m.getParameterTypes()) {
                    s.append(s.charAt(s.length() - 1) == '(' ? "" : ",").append(p);
                }
                shown.add(s + ")");
                names.add(m.getName());
            }
        }
        CHECK.yes("the methods are " + shown, shown.equals(new TreeSet<>(METHODS)));
        for (Field f : TableMerge.class.getDeclaredFields()) {
            boolean told = f.getName().equals("NONE") || f.getName().equals("EMPTY");
            CHECK.yes(f + " is private, or of the document", Modifier.isPrivate(f.getModifiers()) != told || f.isSynthetic());
            CHECK.yes(f + " is final, if it is static", !Modifier.isStatic(f.getModifiers()) || Modifier.isFinal(f.getModifiers()));
        }
        Constructor<?>[] made = TableMerge.class.getDeclaredConstructors();
        CHECK.is("constructors", made.length, 1);
        for (Class<?> inside : TableMerge.class.getDeclaredClasses()) {
            CHECK.yes(inside + " is static", Modifier.isStatic(inside.getModifiers()));
            for (Method m : inside.getDeclaredMethods()) {
                CHECK.no(m + " bears a name of the face", names.contains(m.getName()));
                CHECK.yes(m + " has at most seven parameters", m.getParameterCount() <= 7);
            }
        }
        for (Method m : TableMerge.class.getDeclaredMethods()) {
            CHECK.no(m + " is private under a name of the face", Modifier.isPrivate(m.getModifiers()) && names.contains(m.getName()));
        }
    }

    /** 512 calls, the dearest ones among them, on one object: far below the room of 7.3 million elements. */
    private static void room() {
        com.sun.management.ThreadMXBean threads = (com.sun.management.ThreadMXBean) ManagementFactory.getThreadMXBean();
        long id = Thread.currentThread().getId();
        long ahead = threads.getThreadAllocatedBytes(id);
        TableMerge x = Check.told("column a number;column b digit;row 1 1 1;row 2 2 2;row 3 3 3;row 4 4 4;unique 0;"
                + "left set 1 0 9;left set 2 0 8;left set 3 0 7;right set 1 0 5;right set 2 1 6;right set 4 0 3;");
        for (int i = 0; i < 60; i++) {
            x.flip();
            x.insert(i % 2, 5 + i % 15);
            x.image();
            x.alone(0, 0);
            x.edited(0);
            x.along(1, 0);
            x.years(i, 60, 1);
            x.restore();
        }
        long bytes = threads.getThreadAllocatedBytes(id) - ahead;
        CHECK.yes("bytes of 512 calls: " + bytes, bytes < 1_000_000);
    }
}
