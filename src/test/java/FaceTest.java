import java.lang.management.ManagementFactory;
import java.lang.reflect.Constructor;
import java.lang.reflect.Field;
import java.lang.reflect.Method;
import java.lang.reflect.Modifier;
import java.util.Random;
import java.util.Set;
import java.util.TreeSet;

/** The public face, and the room that a run may take. */
final class FaceTest {
    private static final Set<String> FACE = Set.of(
        "int REFUSED", "int FULL", "int BUSY", "int STUCK", "long PENDING", "new(int,int)",
        "int give(int,int,int)", "void deliver(int)", "void lose(int)", "void twice(int)", "int stir(int,int)",
        "int tick(int)", "boolean crash(int,boolean)", "boolean restart(int)", "int map(int)", "int settle()",
        "long answer(int)", "long at(int,int,int)", "int count(int)");

    public static void main(String[] args) {
        face();
        noNameTwice();
        room();
        Check.end();
    }

    private static String types(Class<?>[] types) {
        StringBuilder text = new StringBuilder();
        for (Class<?> type : types) {
            text.append(text.length() == 0 ? "" : ",").append(type.getName());
        }
        return "(" + text + ")";
    }

    private static void face() {
        Set<String> visible = new TreeSet<>();
        for (Field field : VersionGroup.class.getDeclaredFields()) {
            if (!Modifier.isPrivate(field.getModifiers())) {
                visible.add(field.getType() + " " + field.getName());
            }
            Check.holds(field.getName() + " is no static state", !Modifier.isStatic(field.getModifiers())
                || Modifier.isFinal(field.getModifiers()));
        }
        for (Constructor<?> constructor : VersionGroup.class.getDeclaredConstructors()) {
            visible.add("new" + types(constructor.getParameterTypes()));
        }
        for (Method method : VersionGroup.class.getDeclaredMethods()) {
            if (!Modifier.isPrivate(method.getModifiers())) {
                visible.add(method.getReturnType() + " " + method.getName() + types(method.getParameterTypes()));
            }
        }
        Check.holds("the face is " + visible, visible.equals(new TreeSet<>(FACE)));
        Check.holds("final", Modifier.isFinal(VersionGroup.class.getModifiers()));
    }

    private static void noNameTwice() {
        Set<String> names = new TreeSet<>();
        for (Method method : VersionGroup.class.getDeclaredMethods()) {
            if (Modifier.isPublic(method.getModifiers())) {
                names.add(method.getName());
            }
        }
        for (Method method : VersionGroup.class.getDeclaredMethods()) {
            Check.holds("a private " + method.getName(),
                Modifier.isPublic(method.getModifiers()) || !names.contains(method.getName()));
        }
        for (Class<?> inside : VersionGroup.class.getDeclaredClasses()) {
            Check.holds(inside + " is static", Modifier.isStatic(inside.getModifiers()));
            for (Method method : inside.getDeclaredMethods()) {
                Check.holds(inside + " names " + method.getName(), !names.contains(method.getName()));
            }
        }
    }

    /** An object and 512 calls of it: far less than 7.3 million elements of 4 bytes and more. */
    private static void room() {
        com.sun.management.ThreadMXBean meter =
            (com.sun.management.ThreadMXBean) ManagementFactory.getThreadMXBean();
        long thread = Thread.currentThread().getId();
        Random random = new Random(1);
        dearRun(random);
        long before = meter.getThreadAllocatedBytes(thread);
        dearRun(random);
        long bytes = meter.getThreadAllocatedBytes(thread) - before;
        Check.holds("a run takes " + bytes + " bytes", bytes < 200000);
    }

    private static void dearRun(Random random) {
        VersionGroup group = new VersionGroup(6, 3);
        for (int i = 0; i < 102; i++) {
            group.give(3, i % 40, 1);
            group.map(random.nextInt());
            group.tick(50);
            group.stir(500, i);
            group.settle();
        }
    }
}
