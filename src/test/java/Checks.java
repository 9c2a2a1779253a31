/** Counts what held and prints what did not. */
final class Checks {
    interface Answer {
        long give();
    }

    private static int passed;
    private static int failed;

    private Checks() {
    }

    static void due(String what, long want, Answer call) {
        String answer = answerOf(call);
        note(answer.equals(String.valueOf(want)), what, String.valueOf(want), answer);
    }

    static void dueTrue(String what, boolean held) {
        note(held, what, "true", String.valueOf(held));
    }

    static void dueDouble(String what, double want, double got) {
        note(want == got, what, String.valueOf(want), String.valueOf(got));
    }

    static void dueText(String what, String want, String got) {
        note(want.equals(got), what, want, got);
    }

    static void dueThrow(String what, Class<? extends RuntimeException> want, Answer call) {
        String answer = answerOf(call);
        String due = "throws." + want.getSimpleName();
        note(answer.equals(due), what, due, answer);
    }

    /** The number that a call answers, or the exact exception's name behind "throws.". */
    static String answerOf(Answer call) {
        try {
            return String.valueOf(call.give());
        } catch (RuntimeException thrown) {
            return "throws." + thrown.getClass().getSimpleName();
        }
    }

    private static void note(boolean held, String what, String want, String got) {
        if (held) {
            passed++;
        } else {
            failed++;
            System.out.println(what + ": answered " + got + ", due is " + want);
        }
    }

    static int passed() {
        return passed;
    }

    static int failed() {
        return failed;
    }
}
