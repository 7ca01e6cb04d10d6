/** Counts the answers that are not due, and ends the test with exit code 1 if there was one. */
final class Expect {
    interface Call {
        void make();
    }

    private static int wrong = 0;

    private Expect() {
    }

    static void same(String what, long got, long due) {
        if (got != due) {
            report(what, String.valueOf(got), String.valueOf(due));
        }
    }

    static void same(String what, double got, double due) {
        if (Double.compare(got, due) != 0) {
            report(what, String.valueOf(got), String.valueOf(due));
        }
    }

    static void same(String what, String got, String due) {
        if (!due.equals(got)) {
            report(what, got, due);
        }
    }

    static void yes(String what, boolean got) {
        if (!got) {
            report(what, "false", "true");
        }
    }

    static void no(String what, boolean got) {
        if (got) {
            report(what, "true", "false");
        }
    }

    /** The type must be the very one that the document names, not a class below it. */
    static void thrown(String what, Class<? extends RuntimeException> type, Call call) {
        String got = "no exception";
        try {
            call.make();
        } catch (RuntimeException e) {
            got = e.getClass().getSimpleName();
        }
        same(what, got, type.getSimpleName());
    }

    /** Like thrown, and the tea house must answer as before. */
    static void refused(String what, TeaHouse house, Class<? extends RuntimeException> type, Call call) {
        String before = Portrait.of(house);
        thrown(what, type, call);
        same(what + " leaves the tea house unchanged", Portrait.of(house), before);
    }

    static void end() {
        if (wrong != 0) {
            System.out.println(wrong + " answers are not as due");
            System.exit(1);
        }
    }

    private static void report(String what, String got, String due) {
        wrong++;
        System.out.println(what + " answered " + got + ", due is " + due);
    }
}
