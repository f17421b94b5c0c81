/** Counts and prints the answers that are not the ones that are due. */
final class Check {
    interface Call {
        Object answer();
    }

    private static int wrong = 0;
    private static String sentence = "";

    private Check() {
    }

    /** Runs the test of one sentence of the document; the sentence is told with each wrong answer. */
    static void sentence(String words, Runnable test) {
        sentence = "\"" + words + "\": ";
        test.run();
        sentence = "";
    }

    static void same(String what, Object got, Object due) {
        if (!got.equals(due)) {
            wrong++;
            System.out.println(sentence + what + " answered " + got + ", due is " + due);
        }
    }

    static void fails(String what, Class<? extends RuntimeException> due, Call call) {
        same(what, answerOf(call), "throws." + due.getSimpleName());
    }

    /** What a call answers; the name of what it throws counts as its answer. */
    static Object answerOf(Call call) {
        try {
            return call.answer();
        } catch (RuntimeException e) {
            return "throws." + e.getClass().getSimpleName();
        }
    }

    static int wrongAnswers() {
        return wrong;
    }

    static void finish() {
        System.out.println(wrong == 0 ? "all answers are as due" : wrong + " answers are not as due");
        if (wrong != 0) {
            System.exit(1);
        }
    }
}
