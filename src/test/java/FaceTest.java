import java.lang.reflect.Executable;
import java.lang.reflect.Field;
import java.lang.reflect.Method;
import java.lang.reflect.Modifier;
import java.util.Arrays;
import java.util.List;
import java.util.TreeSet;

/** The public face, and the room that a run takes. */
public final class FaceTest {
    private static final List<String> FACE = List.of(
            "change(int,int,int,int,int,int)", "clear()", "count(int)", "draw(int,int)", "fact(int,int,int)",
            "facts(int)", "falls(int)", "holds(int,int,int,int,int,int,int)", "needs(int,int,int)",
            "place(int,int,int)", "ring(int)", "row(int)", "step(int,int,int,int,int)", "told(int,int)");

    private static final Due due = new Due();

    public static void main(String[] args) {
        publicFace();
        for (Class<?> inside : FactFinder.class.getDeclaredClasses()) {
            classInside(inside);
        }
        due.isTrue("at most twelve classes", FactFinder.class.getDeclaredClasses().length < 12);
        allClasses(FactFinder.class);
        room();
        due.end();
    }

    private static void publicFace() {
        due.is("NONE", -1, FactFinder.NONE);
        due.is("BAD", -2, FactFinder.BAD);
        due.is("FULL", -3, FactFinder.FULL);
        due.isTrue("the class is public and final",
                FactFinder.class.getModifiers() == (Modifier.PUBLIC | Modifier.FINAL));
        due.is("constructors", 1, FactFinder.class.getDeclaredConstructors().length);
        due.is("public constructors", 1, FactFinder.class.getConstructors().length);
        TreeSet<String> methods = new TreeSet<>();
        for (Method m : FactFinder.class.getDeclaredMethods()) {
            if (!Modifier.isPrivate(m.getModifiers())) {
                String types = Arrays.toString(m.getParameterTypes()).replaceAll("[\\[\\] ]", "");
                methods.add(m.getName() + "(" + types + ")");
                due.isTrue(m + " answers an int", m.getReturnType() == int.class);
                due.isTrue(m + " is public, of an object", m.getModifiers() == Modifier.PUBLIC);
            }
        }
        due.isTrue("the public methods: " + methods, methods.equals(new TreeSet<>(FACE)));
        TreeSet<String> fields = new TreeSet<>();
        for (Field f : FactFinder.class.getDeclaredFields()) {
            if (!Modifier.isPrivate(f.getModifiers())) {
                fields.add(f.getName());
            }
        }
        due.isTrue("the public constants: " + fields, fields.equals(new TreeSet<>(List.of("NONE", "BAD", "FULL"))));
    }

    private static void classInside(Class<?> inside) {
        int modifiers = inside.getModifiers();
        due.isTrue(inside + " is static", Modifier.isStatic(modifiers));
        due.isTrue(inside + " is not public", !Modifier.isPublic(modifiers) && !Modifier.isProtected(modifiers));
        allClasses(inside);
    }

    private static void allClasses(Class<?> one) {
        int fields = 0;
        for (Field f : one.getDeclaredFields()) {
            boolean isStatic = Modifier.isStatic(f.getModifiers());
            due.isTrue(f + " is final", !isStatic || Modifier.isFinal(f.getModifiers()));
            fields += isStatic ? 0 : 1;
        }
        due.isTrue(one + " has some twenty fields at most", fields <= 20);
        for (Method m : one.getDeclaredMethods()) {
            parameters(m);
            boolean named = FACE.stream().anyMatch(f -> f.startsWith(m.getName() + "("));
            due.isTrue(m + " bears no public method's name",
                    !named || one == FactFinder.class && Modifier.isPublic(m.getModifiers()));
        }
        for (Executable c : one.getDeclaredConstructors()) {
            parameters(c);
        }
    }

    private static void parameters(Executable e) {
        due.isTrue(e + " takes at most seven", e.getParameterCount() <= 7);
    }

    /** A run of the dearest calls makes nothing but its object, which itself is small. */
    private static void room() {
        com.sun.management.ThreadMXBean threads =
                (com.sun.management.ThreadMXBean) java.lang.management.ManagementFactory.getThreadMXBean();
        run();
        long before = threads.getCurrentThreadAllocatedBytes();
        run();
        long bytes = threads.getCurrentThreadAllocatedBytes() - before;
        due.isTrue("a run makes " + bytes + " bytes", bytes < 100_000);
    }

    private static void run() {
        FactFinder x = new FactFinder();
        x.draw(1, 5);
        x.step(0, 0, 0, 0, 0);
        x.step(0, 0, 0, 0, 0);
        for (int p = 2; p < 10; p++) {
            x.step(p == 4 ? 7 : 1, p - 1, p - 2, 0, 0);
        }
        for (int i = 0; i < 100; i++) {
            x.change(9, i % 2 == 0 ? 1 : 0, 0, 1, 0, 0);
            x.facts(7);
            x.needs(8, 0, 3);
            x.row(i % 7);
            x.ring(i % 7);
        }
    }
}
