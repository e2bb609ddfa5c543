import java.lang.reflect.InvocationTargetException;
import java.lang.reflect.Method;

/**
 * All that can be seen of an object behind some steps. Each look that changes what is seen is at an object of its own,
 * that has gone the same steps, and none has more than the 512 calls that the document speaks of.
 */
final class Picture {
    interface Steps {
        void on(LastTongue x);
    }

    private Picture() {
    }

    static LastTongue behind(Steps steps) {
        LastTongue x = new LastTongue();
        steps.on(x);
        return x;
    }

    static String of(Steps steps) {
        LastTongue first = behind(steps);
        int undos = first.count(8);
        int keeps = first.count(9);
        StringBuilder all = new StringBuilder(look(first));
        for (int i = 1; i <= undos; i++) {
            LastTongue x = behind(steps);
            for (int k = 0; k < i; k++) {
                x.undo();
            }
            all.append(" | undone ").append(look(x));
        }
        for (int i = 1; i <= keeps; i++) {
            LastTongue x = behind(steps);
            for (int k = 0; k < i; k++) {
                x.back();
            }
            all.append(" | back ").append(look(x));
        }
        LastTongue last = behind(steps);
        all.append(" | text ").append(last.fault()).append(' ').append(last.lay()).append(look(last));
        return all.toString();
    }

    static String look(LastTongue x) {
        StringBuilder seen = new StringBuilder();
        for (int what = 0; what <= 10; what++) {
            seen.append(x.count(what)).append(' ');
        }
        for (int w = 0; w < x.count(0); w++) {
            seen.append(x.sound(w));
        }
        seen.append(" which ").append(x.which());
        int wooers = x.count(1);
        for (int p = 0; p < wooers; p++) {
            seen.append("; ");
            for (int what = 0; what <= 4; what++) {
                seen.append(x.wooer(p, what)).append(' ');
            }
            seen.append(Check.row(x, p)).append(' ').append(Check.ages(x, p)).append(' ').append(x.kinds(p));
        }
        return seen.toString();
    }

    /** A call of the face by its name, of the class or of the slow reading of the document. */
    static int call(Object x, String name, int... numbers) {
        Class<?>[] types = new Class<?>[numbers.length];
        Object[] given = new Object[numbers.length];
        for (int i = 0; i < numbers.length; i++) {
            types[i] = int.class;
            given[i] = numbers[i];
        }
        try {
            Method method = x.getClass().getDeclaredMethod(name, types);
            return (Integer) method.invoke(x, given);
        } catch (NoSuchMethodException | IllegalAccessException e) {
            throw new IllegalStateException(name + " is not of the face", e);
        } catch (InvocationTargetException e) {
            throw new IllegalStateException(name + " throws", e);
        }
    }
}
