/** Counts the answers that are not the ones that are due. */
final class Check {
    private static int wrong = 0;
    private static int told = 0;
    private static String about = "";
    private static int wrongAhead = 0;
    private static int toldAhead = 0;

    private Check() {
    }

    /** From here on, what is wrong is told to be wrong about this. */
    static void begin(String what) {
        about = what + " | ";
        wrongAhead = wrong;
        toldAhead = told;
    }

    /** Answers whether something was checked since begin(), and nothing of it was wrong. */
    static boolean end() {
        holds("something is checked", told > toldAhead);
        about = "";
        return wrong == wrongAhead;
    }

    static void due(String call, long got, long want) {
        told++;
        if (got != want) {
            wrong++;
            System.out.println(about + call + " answered " + got + ", due is " + want);
        }
    }

    static void holds(String what, boolean holds) {
        told++;
        if (!holds) {
            wrong++;
            System.out.println(about + "does not hold: " + what);
        }
    }

    static int wrong() {
        return wrong;
    }

    static void finish() {
        System.out.println(told + " checks, " + wrong + " wrong");
        if (wrong != 0) {
            System.exit(1);
        }
    }
}
