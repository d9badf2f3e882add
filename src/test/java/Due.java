/** Counts and prints the answers that are not the due ones. */
final class Due {
    interface Call {
        Object answer();
    }

    private static int wrong = 0;
    private static int asked = 0;

    private Due() {
    }

    /** What a call answers, or the class of what it throws; what the machine throws is told as a text and never due. */
    static Object outcome(Call call) {
        try {
            return call.answer();
        } catch (RuntimeException thrown) {
            return isThrownByHand(thrown) ? thrown.getClass() : "the machine's " + thrown;
        }
    }

    /** Whether a throw statement of the program or of the Model threw it, not the machine or its library. */
    static boolean isThrownByHand(Throwable thrown) {
        StackTraceElement[] trace = thrown.getStackTrace();
        boolean isOurs = trace.length > 0
            && (trace[0].getClassName().startsWith("Goalmouth") || trace[0].getClassName().startsWith("Model"));
        // The machine's own exceptions of these classes are of finer ones, or bear a message of its making.
        return isOurs && thrown.getClass() != ArrayIndexOutOfBoundsException.class
            && thrown.getClass() != NullPointerException.class && thrown.getClass() != ClassCastException.class
            && !"/ by zero".equals(thrown.getMessage());
    }

    static void is(String what, Object want, Call call) {
        asked++;
        Object got = outcome(call);
        if (!want.equals(got)) {
            wrong++;
            System.out.println(what + ": got " + got + ", due is " + want);
        }
    }

    static void finish() {
        System.out.println(asked + " answers, " + wrong + " of them not as due");
        if (wrong != 0 || asked == 0) {
            System.exit(1);
        }
    }
}
