/** Counts and prints what is not as it is due. */
final class Check {
    interface Call {
        Object answer() throws Throwable;
    }

    private static int wrong = 0;
    private static int checked = 0;

    private Check() {
    }

    static void same(String what, long got, long want) {
        note(what, got == want, "" + got, "" + want);
    }

    static void same(String what, boolean got, boolean want) {
        note(what, got == want, "" + got, "" + want);
    }

    static void same(String what, double got, double want) {
        note(what, got == want, "" + got, "" + want);
    }

    static void same(String what, String got, String want) {
        note(what, got.equals(want), got, want);
    }

    /** The very class counts: an ArrayIndexOutOfBoundsException is no IndexOutOfBoundsException. */
    static void fails(String what, Class<? extends Throwable> want, Call call) {
        String got = answerOf(call);
        String due = "throws " + want.getName();
        note(what, got.equals(due), got, due);
    }

    static String answerOf(Call call) {
        try {
            return String.valueOf(call.answer());
        } catch (Throwable thrown) {
            return "throws " + thrown.getClass().getName();
        }
    }

    private static void note(String what, boolean isRight, String got, String want) {
        checked++;
        if (!isRight) {
            wrong++;
            System.out.println(what + ": answered " + got + ", due is " + want);
        }
    }

    static void end() {
        System.out.println(checked + " checks, " + wrong + " not as due");
        if (wrong != 0 || checked == 0) {
            System.exit(1);
        }
    }
}
