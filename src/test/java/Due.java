import java.util.function.Supplier;

/** Counts the answers of a test that are not as due, and tells them. */
final class Due {

    private int asked;
    private int wrong;
    private String about = "";

    void about(String what) {
        about = what;
    }

    void is(Object want, Object got) {
        asked++;
        if (!want.equals(got)) {
            wrong++;
            StackTraceElement[] stack = new Throwable().getStackTrace();
            int line = 0;
            for (StackTraceElement frame : stack) {
                if (line == 0 && !frame.getClassName().startsWith("Due")) {
                    line = frame.getLineNumber();
                }
            }
            System.out.println(about + ", line " + line + ": answered " + got + ", due is " + want);
        }
    }

    /** The call throws an exception of just this class. */
    void fails(Class<? extends RuntimeException> due, Supplier<Object> call) {
        Object got;
        try {
            got = call.get();
        } catch (RuntimeException e) {
            got = e.getClass();
        }
        is(due, got);
    }

    void end(String test) {
        System.out.println(test + ": " + asked + " answers, " + wrong + " wrong");
        System.exit(wrong == 0 ? 0 : 1);
    }
}
