/** Counts wrong answers, and ends the program with 1 if there was one. */
final class Check {
    interface Call {
        Object answer();
    }

    private static int asked = 0;
    private static int wrong = 0;

    private Check() {
    }

    /** What a call answers, or "throws.Name" for what it throws. */
    static Object outcome(Call call) {
        try {
            return call.answer();
        } catch (RuntimeException e) {
            return "throws." + e.getClass().getSimpleName();
        }
    }

    static void equal(String what, Object got, Object want) {
        asked++;
        if (!want.equals(got)) {
            wrong++;
            if (wrong <= 50) {
                System.out.println(what + " answered " + got + ", due is " + want);
            }
        }
    }

    static void answers(String what, Object want, Call call) {
        equal(what, outcome(call), want);
    }

    static void noThing(String what, Call call) {
        equal(what, outcome(call), "throws.IndexOutOfBoundsException");
    }

    static void badArgument(String what, Call call) {
        equal(what, outcome(call), "throws.IllegalArgumentException");
    }

    static void badState(String what, Call call) {
        equal(what, outcome(call), "throws.IllegalStateException");
    }

    static void end() {
        System.out.println(asked + " answers looked at, " + wrong + " wrong");
        if (wrong != 0) {
            System.exit(1);
        }
    }
}
