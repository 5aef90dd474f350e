/** Compares answers with those that are due, and counts the wrong ones. */
final class Check {
    interface Call {
        long answer();
    }

    interface Deed {
        void doIt();
    }

    private static int wrong = 0;

    private Check() {
    }

    static void same(String what, Object got, Object want) {
        if (!want.equals(got)) {
            wrong++;
            System.out.println(what + ": answered " + got + ", due is " + want);
        }
    }

    static void gives(String what, long want, Call call) {
        same(what, told(call), Long.toString(want));
    }

    static void done(String what, Deed deed) {
        same(what, told(deed), "done");
    }

    static void fails(String what, Class<? extends RuntimeException> want, Deed deed) {
        same(what, told(deed), "throws." + want.getSimpleName());
    }

    /** The answer, or throws. and the name of the exception. */
    static String told(Call call) {
        try {
            return Long.toString(call.answer());
        } catch (RuntimeException e) {
            return "throws." + e.getClass().getSimpleName();
        }
    }

    static String told(Deed deed) {
        try {
            deed.doIt();
            return "done";
        } catch (RuntimeException e) {
            return "throws." + e.getClass().getSimpleName();
        }
    }

    static boolean anyWrong() {
        return wrong != 0;
    }

    static void end() {
        if (wrong != 0) {
            System.out.println(wrong + " answers are not as due");
            System.exit(1);
        }
    }
}
