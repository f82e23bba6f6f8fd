import java.util.Arrays;

/** Counts the answers that are not the ones due, and ends a test by them. */
final class Check {
    interface Call {
        long answer();
    }

    private static int wrong = 0;
    private static int sentences = 0;
    private static String sentence = "";

    private Check() {
    }

    /** The checks that follow are about these words of the document, that stand there. */
    static void sentence(String where, String words) {
        sentence = where + ", \"" + words + "\": ";
        sentences++;
    }

    static void due(String what, long got, long want) {
        if (got != want) {
            tell(what + " answered " + got + ", due is " + want);
        }
    }

    static void due(String what, int[] got, int... want) {
        if (!Arrays.equals(got, want)) {
            tell(what + " answered " + Arrays.toString(got) + ", due is " + Arrays.toString(want));
        }
    }

    static void refused(String what, Class<? extends RuntimeException> kind, Call call) {
        try {
            tell(what + " answered " + call.answer() + ", due is " + kind.getSimpleName());
        } catch (RuntimeException e) {
            if (e.getClass() != kind) {
                tell(what + " threw " + e + ", due is " + kind.getSimpleName());
            }
        }
    }

    private static void tell(String text) {
        wrong++;
        System.out.println(sentence + text);
    }

    static void end() {
        String about = sentences == 0 ? "" : " for " + sentences + " sentences";
        System.out.println((wrong == 0 ? "all answers are as due" : wrong + " answers are not as due") + about);
        if (wrong != 0) {
            System.exit(1);
        }
    }
}
