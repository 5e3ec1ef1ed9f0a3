import java.util.Set;
import java.util.TreeSet;
import java.util.function.Supplier;

/** Counts the answers of a test that are not as due, and tells them. */
final class Due {

    private final Set<String> tested = new TreeSet<>();
    private int asked;
    private int wrong;
    private String about = "";
    private String sentence;

    void about(String what) {
        about = what;
        sentence = null;
    }

    /** What follows is a test of this sentence of the document; the terms are told as promise 0. */
    void sentence(int promise, String text) {
        about("promise " + promise + ", \"" + text + "\"");
        sentence = promise + " " + text;
    }

    /** The sentences behind which something was asked. */
    Set<String> tested() {
        return tested;
    }

    void is(Object want, Object got) {
        asked++;
        if (sentence != null) {
            tested.add(sentence);
        }
        if (!want.equals(got)) {
            wrong++;
            System.out.println(about + ", " + place() + ": answered " + got + ", due is " + want);
        }
    }

    private static String place() {
        for (StackTraceElement frame : new Throwable().getStackTrace()) {
            String name = frame.getClassName();
            if (!name.startsWith("Due") && !name.equals("Edges")) {
                return name + " line " + frame.getLineNumber();
            }
        }
        return "";
    }

    /** The call throws an exception of just this class. */
    void fails(Class<? extends RuntimeException> due, Supplier<Object> call) {
        is(due, outcome(call));
    }

    /** The answer, or the class of the exception that is thrown. */
    static Object outcome(Supplier<Object> call) {
        try {
            return call.get();
        } catch (RuntimeException e) {
            return e.getClass();
        }
    }

    void end(String test) {
        System.out.println(test + ": " + asked + " answers, " + wrong + " wrong");
        System.exit(wrong == 0 ? 0 : 1);
    }
}
