import java.lang.reflect.Constructor;
import java.lang.reflect.Field;
import java.lang.reflect.Method;
import java.lang.reflect.Modifier;
import java.util.Arrays;
import java.util.TreeSet;

/** The public face is the document's and no more; the machine throws at no call, and calls make next to nothing. */
public final class FaceTest {
    private static final String[] FACE = {"write 1", "wipe 0", "fault 0", "lay 0", "sound 1", "wooer 2", "word 3",
        "lesson 2", "pass 1", "mend 2", "change 2", "undo 0", "behind 3", "made 1", "best 3", "mends 1", "two 1",
        "tests 1", "other 0", "hear 3", "forget 0", "which 0", "kinds 1", "hail 4", "year 3", "keep 0", "back 0",
        "count 1"};
    private static final int[] ODD = {0, 1, 3, -1, -2, 5, 8, 31, 32, 33, 61, 200, 10000, Integer.MAX_VALUE,
        Integer.MIN_VALUE};
    private static final Check check = new Check();

    public static void main(String[] args) throws Exception {
        constants();
        members();
        methods();
        oddNumbers();
        room();
        check.close("FaceTest");
    }

    private static void constants() {
        check.due("BAD", LastTongue.BAD, -1);
        check.due("NO", LastTongue.NO, -2);
        check.due("FULL", LastTongue.FULL, -3);
        check.due("NONE", LastTongue.NONE, -4);
    }

    private static void members() {
        int open = 0;
        for (Field field : LastTongue.class.getDeclaredFields()) {
            open += Modifier.isPrivate(field.getModifiers()) ? 0 : 1;
        }
        check.due("fields that are not private", open, 4);
        Constructor<?>[] made = LastTongue.class.getDeclaredConstructors();
        check.due("constructors", made.length, 1);
        check.holds("the constructor is public", Modifier.isPublic(made[0].getModifiers()));
        int type = LastTongue.class.getModifiers();
        check.holds("the class is public and final", Modifier.isPublic(type) && Modifier.isFinal(type));
        for (Class<?> inside : LastTongue.class.getDeclaredClasses()) {
            int how = inside.getModifiers();
            check.holds(inside + " is static, not public", Modifier.isStatic(how) && !Modifier.isPublic(how));
        }
    }

    private static void methods() {
        TreeSet<String> open = new TreeSet<>();
        TreeSet<String> names = new TreeSet<>();
        for (Method method : LastTongue.class.getDeclaredMethods()) {
            if (!Modifier.isPrivate(method.getModifiers())) {
                open.add(method.getName() + " " + method.getParameterCount());
                names.add(method.getName());
                check.holds(method + " answers an int", method.getReturnType() == int.class);
                check.holds(method + " is public", Modifier.isPublic(method.getModifiers()));
            }
        }
        check.same("the face", open.toString(), new TreeSet<>(Arrays.asList(FACE)).toString());
        for (Method method : LastTongue.class.getDeclaredMethods()) {
            boolean shared = Modifier.isPrivate(method.getModifiers()) && names.contains(method.getName());
            check.holds(method + " bears no public name", !shared);
        }
    }

    /** All numbers at the edges in all places; only what the face says may come back. */
    private static void oddNumbers() throws Exception {
        for (Method method : LastTongue.class.getDeclaredMethods()) {
            if (Modifier.isPublic(method.getModifiers())) {
                int places = method.getParameterCount();
                int calls = (int) Math.pow(ODD.length, places);
                LastTongue x = new LastTongue();
                for (int call = 0; call < Math.min(calls, 4000); call++) {
                    x = call % 512 == 0 ? new LastTongue() : x;
                    Object[] numbers = new Object[places];
                    for (int i = 0, rest = call; i < places; i++, rest /= ODD.length) {
                        numbers[i] = ODD[rest % ODD.length];
                    }
                    int answer = (Integer) method.invoke(x, numbers);
                    check.holds(method.getName() + Arrays.toString(numbers), answer >= -4);
                }
            }
        }
    }

    /** One room holds all that a run makes: the object itself is small, and its calls make nothing more. */
    private static void room() {
        com.sun.management.ThreadMXBean bean =
            (com.sun.management.ThreadMXBean) java.lang.management.ManagementFactory.getThreadMXBean();
        long thread = Thread.currentThread().getId();
        bean.getThreadAllocatedBytes(thread);
        long start = bean.getThreadAllocatedBytes(thread);
        LastTongue x = new LastTongue();
        long made = bean.getThreadAllocatedBytes(thread);
        for (int i = 0; i < 64; i++) {
            x.best(i % 5, 3, -1);
            x.hail(i % 5, 8, 5, 0);
            x.year(i, 60, 0);
            x.mends(0);
            x.kinds(i % 5);
            x.pass(1);
            x.tests(1);
            x.fault();
        }
        long after = bean.getThreadAllocatedBytes(thread);
        check.holds("an object's bytes: " + (made - start), made - start < 40000);
        check.holds("bytes of 512 calls: " + (after - made), after - made < 2000);
    }
}
