/** Compares answers with those that are due, and tells each that is not. */
final class Due {
    interface Call {
        void run();
    }

    private static int wrong = 0;

    private Due() {
    }

    static void same(String what, Object got, Object want) {
        if (!want.equals(got)) {
            wrong++;
            System.out.println(what + ": answered " + got + ", due is " + want);
        }
    }

    static void raises(String what, Class<? extends RuntimeException> want, Call call) {
        String got = "nothing";
        try {
            call.run();
        } catch (RuntimeException thrown) {
            got = thrown.getClass().getName();
        }
        same(what + " throws", got, want.getName());
    }

    static void finish(String name) {
        System.out.println(name + ": " + (wrong == 0 ? "all answers are as due" : wrong + " answers are not as due"));
        if (wrong != 0) {
            System.exit(1);
        }
    }
}
