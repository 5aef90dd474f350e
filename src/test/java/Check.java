/** Compares answers with those that are due, and counts the wrong ones. */
final class Check {
    interface Call {
        long answer();
    }

    interface Deed {
        void doIt();
    }

    private static int wrong = 0;
    private static String place = "";

    private Check() {
    }

    /**
     * The test of one sentence. The words are the document's own, so that they can be looked for
     * there; they stand before each answer that is wrong.
     */
    static void sentence(String where, String words, Runnable test) {
        place = where + " \"" + words + "\": ";
        try {
            test.run();
        } catch (RuntimeException e) {
            same("a call of the test itself", "throws." + e.getClass().getSimpleName(), "no exception");
        }
        place = "";
    }

    static void same(String what, Object got, Object want) {
        if (!want.equals(got)) {
            wrong++;
            System.out.println(place + what + ": answered " + got + ", due is " + want);
        }
    }

    static void gives(String what, long want, Call call) {
        same(what, told(call), Long.toString(want));
    }

    static void done(String what, Deed deed) {
        same(what, told(deed), "done");
    }

    static void fails(String what, Class<? extends RuntimeException> want, Deed deed) {
        same(what, told(deed), "throws." + want.getSimpleName());
    }

    /** The answer, or throws. and the name of the exception. */
    static String told(Call call) {
        try {
            return Long.toString(call.answer());
        } catch (RuntimeException e) {
            return "throws." + e.getClass().getSimpleName();
        }
    }

    static String told(Deed deed) {
        try {
            deed.doIt();
            return "done";
        } catch (RuntimeException e) {
            return "throws." + e.getClass().getSimpleName();
        }
    }

    static boolean anyWrong() {
        return wrong != 0;
    }

    static void end() {
        if (wrong != 0) {
            System.out.println(wrong + " answers are not as due");
            System.exit(1);
        }
    }
}
