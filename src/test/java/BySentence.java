import java.lang.reflect.InvocationTargetException;
import java.lang.reflect.Method;
import java.util.Arrays;
import java.util.Comparator;

/** Tests each of which holds to one sentence of the document, and bears it. */
abstract class BySentence {
    static final int NONE = LicenceKeeper.NONE;
    static final int DEVICE = LicenceKeeper.DEVICE;
    static final int CORE = LicenceKeeper.CORE;
    static final String INDEX = Check.INDEX;
    static final String ARGUMENT = Check.ARGUMENT;
    static final String STATE = Check.STATE;

    private final Check check = new Check();
    private String test = "";
    private int looks = 0;

    /** A call whose other arguments are set. */
    interface OneArgument {
        int on(LicenceKeeper keeper, int argument);
    }

    final void answers(int want, Check.Call call) {
        check.answers(nextLook(), want, call);
    }

    final void refuses(String exception, Recorded keeper, Recorded.Step call) {
        check.refuses(nextLook(), exception, keeper, call);
    }

    final void refusesOutside(String exception, int least, int most, Recorded keeper, OneArgument call) {
        for (int value : new int[] {Integer.MIN_VALUE, least - 1, most + 1, Integer.MAX_VALUE}) {
            check.refuses(nextLook() + " with " + value, exception, keeper, k -> call.on(k, value));
        }
    }

    /** All that the keeper answers, these calls too, is what the recorded one answers without them. */
    final void changedNothing(LicenceKeeper called, Recorded keeper) {
        check.equal(nextLook(), Snapshot.ofAll(called), Snapshot.ofAll(keeper.again()));
    }

    private String nextLook() {
        looks++;
        return test + ", look " + looks;
    }

    final void runAll() {
        Method[] methods = getClass().getDeclaredMethods();
        Arrays.sort(methods, Comparator.comparing(Method::getName));
        for (Method method : methods) {
            if (method.isAnnotationPresent(Says.class)) {
                run(method);
            }
        }
        check.end(getClass().getSimpleName());
    }

    private void run(Method method) {
        test = method.getName() + " [" + method.getAnnotation(Says.class).value() + "]";
        looks = 0;
        String end = "no exception";
        try {
            method.invoke(this);
        } catch (InvocationTargetException thrown) {
            end = thrown.getCause().toString();
        } catch (IllegalAccessException thrown) {
            end = thrown.toString();
        }
        check.equal(test + ", its end", end, "no exception");
        check.equal(test + ", has looked", looks > 0, true);
    }
}
