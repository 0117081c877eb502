import java.lang.management.ManagementFactory;
import java.lang.reflect.Constructor;
import java.lang.reflect.Field;
import java.lang.reflect.Member;
import java.lang.reflect.Method;
import java.lang.reflect.Modifier;
import java.util.Arrays;
import java.util.Set;
import java.util.TreeSet;

/** The face of the class, and the room that its calls take. */
public final class FaceTest {
    private static final Checks CHECKS = new Checks();
    private static final String INDEX = " IndexOutOfBoundsException";
    private static final String ARGUMENT = " IllegalArgumentException";
    private static final String STATE = " IllegalStateException";
    private static final String[] METHODS = {
        "append(int)" + ARGUMENT + STATE, "clearText()", "errorPosition()", "load()" + STATE, "about(int)" + ARGUMENT,
        "cell(int int boolean)" + INDEX, "set(int int)" + ARGUMENT, "write(int int int)" + INDEX + ARGUMENT + STATE,
        "transpose(int int)" + INDEX + ARGUMENT + STATE, "exchange(int int)" + INDEX, "staff(boolean)" + STATE,
        "insertBeat(int)" + INDEX + STATE, "removeBeat(int)" + INDEX + STATE, "undo()" + STATE,
        "note(int int int)" + INDEX + ARGUMENT, "hand(int int int)" + INDEX + ARGUMENT,
        "beat(int int)" + INDEX + ARGUMENT, "whole(int)" + ARGUMENT, "whatIf(int int int)" + ARGUMENT,
        "smallestSpan()", "dearest()", "bestTransposition(int)" + INDEX, "runScript(int long)" + ARGUMENT,
        "simulate(long int)" + ARGUMENT, "save(int)" + INDEX, "restore(int)" + INDEX + STATE,
    };
    private static final long BYTES_FOR_ALL_CALLS = 200_000;

    public static void main(String[] args) {
        face();
        noSecondName();
        classesInside();
        room();
        CHECKS.close();
    }

    private static void face() {
        Set<String> seen = new TreeSet<>();
        for (Method m : HandSpans.class.getDeclaredMethods()) {
            if (isSeen(m)) {
                StringBuilder told = new StringBuilder(m.getName()).append('(');
                for (int i = 0; i < m.getParameterCount(); i++) {
                    told.append(i == 0 ? "" : " ").append(m.getParameterTypes()[i].getName());
                }
                told.append(')');
                for (Class<?> e : m.getExceptionTypes()) {
                    told.append(' ').append(e.getSimpleName());
                }
                seen.add(told.toString());
                CHECKS.that(told + " answers an int", m.getReturnType() == int.class);
                CHECKS.that(told + " is public, not static", Modifier.isPublic(m.getModifiers())
                        && !Modifier.isStatic(m.getModifiers()));
            }
        }
        Set<String> due = new TreeSet<>(Arrays.asList(METHODS));
        CHECKS.that("the methods are those of the document: " + seen, seen.equals(due));
        for (Field f : HandSpans.class.getDeclaredFields()) {
            CHECKS.that("field " + f.getName(), !isSeen(f) || f.getName().equals("NONE"));
        }
        Constructor<?>[] made = HandSpans.class.getDeclaredConstructors();
        CHECKS.that("one public constructor", made.length == 1 && Modifier.isPublic(made[0].getModifiers()));
        CHECKS.that("a final class", Modifier.isFinal(HandSpans.class.getModifiers()));
    }

    private static boolean isSeen(Member m) {
        return !Modifier.isPrivate(m.getModifiers()) && !m.isSynthetic();
    }

    private static void noSecondName() {
        Set<String> names = new TreeSet<>();
        for (String method : METHODS) {
            names.add(method.substring(0, method.indexOf('(')));
        }
        for (Class<?> c : HandSpans.class.getDeclaredClasses()) {
            for (Method m : c.getDeclaredMethods()) {
                CHECKS.that(c.getName() + " uses the name " + m.getName(), !names.contains(m.getName()));
            }
        }
        for (Method m : HandSpans.class.getDeclaredMethods()) {
            CHECKS.that("a second " + m.getName(), isSeen(m) || !names.contains(m.getName()));
        }
    }

    private static void classesInside() {
        for (Class<?> c : HandSpans.class.getDeclaredClasses()) {
            int how = c.getModifiers();
            CHECKS.that(c.getName() + " is static, not public or protected",
                    Modifier.isStatic(how) && !Modifier.isPublic(how) && !Modifier.isProtected(how));
            int fields = 0;
            for (Field f : c.getDeclaredFields()) {
                boolean constant = Modifier.isStatic(f.getModifiers());
                CHECKS.that(c.getName() + "." + f.getName() + " is static and changes",
                        !constant || Modifier.isFinal(f.getModifiers()));
                fields += constant ? 0 : 1;
            }
            CHECKS.that(c.getName() + " has too many fields", fields <= 20);
        }
    }

    /** All calls of one run share one room: so the calls make nothing that is kept or thrown away. */
    private static void room() {
        HandSpans x = Scores.of("M416" + "60=30=20=40=10=50=15=45=".repeat(4));
        com.sun.management.ThreadMXBean bean = (com.sun.management.ThreadMXBean) ManagementFactory.getThreadMXBean();
        long thread = Thread.currentThread().getId();
        long before = bean.getThreadAllocatedBytes(thread);
        long sum = 0;
        for (int i = 0; i < 40; i++) {
            sum += x.set(5, i % 2) + x.write(i % 4, i % 16, i) + x.bestTransposition(i % 4) + x.dearest();
            sum += x.smallestSpan() + x.simulate(i, 40) + x.runScript(3, 700007100072000L) + x.save(0) + x.undo();
        }
        long bytes = bean.getThreadAllocatedBytes(thread) - before;
        CHECKS.that("360 calls made " + bytes + " bytes of objects; " + sum, bytes < BYTES_FOR_ALL_CALLS);
    }
}
