/** Compares answers with those that are due, and tells the wrong ones. */
final class Check {
    interface Call {
        Object answer();
    }

    private int wrong = 0;
    private int sentences = 0;
    private String sentence = "";

    /** The answer as a text; an exception's class name behind "throws." if the call throws. */
    static String answerOf(Call call) {
        try {
            return String.valueOf(call.answer());
        } catch (RuntimeException e) {
            return "throws." + e.getClass().getSimpleName();
        }
    }

    /** What follows tests this sentence of the document. */
    void sentence(String words) {
        sentences++;
        sentence = words + " | ";
    }

    void due(String what, Object want, Call call) {
        String got = answerOf(call);
        if (!got.equals(String.valueOf(want))) {
            wrong++;
            if (wrong <= 50) {
                System.out.println(sentence + what + ": answered " + got + ", due is " + want);
            }
        }
    }

    void end(String test) {
        String tested = sentences == 0 ? "" : " (" + sentences + " sentences)";
        System.out.println(test + tested + ": " + (wrong == 0 ? "all answers are as due" : wrong + " answers are not as due"));
        if (wrong != 0) {
            System.exit(1);
        }
    }
}
