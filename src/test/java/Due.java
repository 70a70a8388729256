/** Counts and prints the answers that are not the ones that are due. */
final class Due {
    private static int wrong = 0;
    private static String part = "";

    private Due() {
    }

    static void part(String name) {
        part = name;
    }

    /** What follows tests these words of the document. */
    static void sentence(String place, String words) {
        part = place + ", \"" + words + "\"";
    }

    /** One case of these words. */
    static void sentence(String place, String words, String which) {
        part = place + ", \"" + words + "\" (" + which + ")";
    }

    static void is(String call, long got, long want) {
        if (got != want) {
            wrong(call + " answered " + got + ", due is " + want);
        }
    }

    static void yes(String call, boolean got) {
        is(call, got ? 1 : 0, 1);
    }

    static void no(String call, boolean got) {
        is(call, got ? 1 : 0, 0);
    }

    static void wrong(String what) {
        wrong++;
        if (wrong <= 50) {
            System.out.println(part + ": " + what);
        }
    }

    static int wrongSoFar() {
        return wrong;
    }

    static void end() {
        System.out.println(wrong == 0 ? "all answers are as due" : wrong + " answers are not as due");
        if (wrong != 0) {
            System.exit(1);
        }
    }
}
