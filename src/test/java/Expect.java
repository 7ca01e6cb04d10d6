import java.lang.reflect.InvocationTargetException;
import java.lang.reflect.Method;
import java.util.function.Consumer;
import java.util.function.Supplier;

/** Counts the answers that are not due, and ends the test with exit code 1 if there was one. */
final class Expect {
    interface Call {
        void make();
    }

    interface NumberCall {
        void make(TeaHouse house, int number);
    }

    private static int wrong = 0;
    private static String part = "";

    private Expect() {
    }

    /** Makes every test of a class: no list of them can forget one. */
    static void allOf(Class<?> tests) {
        for (Method method : tests.getDeclaredMethods()) {
            if (method.getName().startsWith("test")) {
                part = method.getName() + ": ";
                method.setAccessible(true);
                try {
                    method.invoke(null);
                } catch (InvocationTargetException e) {
                    report("the test", e.getCause().toString(), "no exception");
                } catch (IllegalAccessException e) {
                    throw new AssertionError(e);
                }
            }
        }
        end();
    }

    static void same(String what, long got, long due) {
        if (got != due) {
            report(what, String.valueOf(got), String.valueOf(due));
        }
    }

    static void same(String what, double got, double due) {
        if (Double.compare(got, due) != 0) {
            report(what, String.valueOf(got), String.valueOf(due));
        }
    }

    static void same(String what, String got, String due) {
        if (!due.equals(got)) {
            report(what, got, due);
        }
    }

    static void yes(String what, boolean got) {
        if (!got) {
            report(what, "false", "true");
        }
    }

    static void no(String what, boolean got) {
        if (got) {
            report(what, "true", "false");
        }
    }

    /** The type must be the very one that the document names, not a class below it. */
    static void thrown(String what, Class<? extends RuntimeException> type, Call call) {
        String got = "no exception";
        try {
            call.make();
        } catch (RuntimeException e) {
            got = e.getClass().getSimpleName();
        }
        same(what, got, type.getSimpleName());
    }

    /** Like thrown, and every probe of such a tea house must answer as if the call had not been made. */
    static void refused(String what, Supplier<TeaHouse> made, Class<? extends RuntimeException> type,
            Consumer<TeaHouse> call) {
        TeaHouse house = made.get();
        thrown(what, type, () -> call.accept(house));
        for (Probe probe : Probe.values()) {
            TeaHouse untouched = made.get();
            TeaHouse touched = made.get();
            try {
                call.accept(touched);
            } catch (RuntimeException e) {
                // Its type is compared above.
            }
            same(what + " leaves the tea house unchanged", probe.answers(touched), probe.answers(untouched));
        }
    }

    /** The call is refused for each of the numbers, and for the ends of all ints. */
    static void refusedEach(String method, Supplier<TeaHouse> made, Class<? extends RuntimeException> type,
            NumberCall call, int... numbers) {
        for (int number : numbers) {
            refused(method + "(" + number + ")", made, type, house -> call.make(house, number));
        }
        for (int number : new int[] {Integer.MIN_VALUE, Integer.MAX_VALUE}) {
            refused(method + "(" + number + ")", made, type, house -> call.make(house, number));
        }
    }

    static void end() {
        if (wrong != 0) {
            System.out.println(wrong + " answers are not as due");
            System.exit(1);
        }
    }

    private static void report(String what, String got, String due) {
        wrong++;
        System.out.println(part + what + " answered " + got + ", due is " + due);
    }
}
