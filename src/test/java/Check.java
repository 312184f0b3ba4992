import java.util.Objects;

/** Compares what a call answers, or throws, with what is due. */
final class Check {
    interface Call {
        Object get();
    }

    private static String about = "";
    private static int checks = 0;
    private static int wrong = 0;

    private Check() {
    }

    /** What stands ahead of each line that is printed from now on. */
    static void about(String words) {
        about = words;
    }

    static int checks() {
        return checks;
    }

    static void is(String what, Object due, Call call) {
        checks++;
        Object got = outcome(call);
        if (!Objects.equals(due, got)) {
            wrong++;
            System.out.println(about + what + " answered " + got + ", due is " + due);
        }
    }

    static void fails(String what, Class<? extends RuntimeException> due, Call call) {
        is(what, "throws." + due.getSimpleName(), call);
    }

    /** The answer, or the name of the very class that was thrown. */
    static Object outcome(Call call) {
        try {
            return call.get();
        } catch (RuntimeException e) {
            return "throws." + e.getClass().getSimpleName();
        }
    }

    static void end(String name) {
        System.out.println(name + ": " + checks + " checks, " + wrong + " wrong");
        if (wrong != 0 || checks == 0) {
            System.exit(1);
        }
    }
}
