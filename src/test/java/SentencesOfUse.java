/** What the document says ahead of its terms: how long an object is used. */
final class SentencesOfUse extends Sentences {
    private static final int CALLS = 512;

    private SentencesOfUse() {
    }

    static void all() {
        holds(1, "An object is used for at most 512 calls after it has been made;", () -> {
            mostTicks();
            mostChanges();
            dearestForecasts();
        });
    }

    /** No more ticks can pass in 512 calls than by texts of orders. */
    private static void mostTicks() {
        CoughLamps x = new CoughLamps();
        x.lamp(10, 8);
        x.lamp(60, 8);
        x.walker(10, 1);
        x.walker(99, 1);
        x.house(10);
        int calls = 5;
        String orders = "t200;".repeat(15) + "t200";
        int texts = 0;
        while (calls + 10 + 1 <= CALLS - 7) {
            due("the pad is full but for one", putText(x, orders), 79);
            due("carryOut()", x.carryOut(), 16);
            calls += 10 + 1;
            texts++;
        }
        int ticks = texts * 16 * 200;
        countDue("lit and seen all the time", x, 0, ticks);
        countDue("lit and seen all the time", x, 7, 4 * ticks);
        countDue("one of two walkers in the dark all the time", x, 8, ticks);
        countDue("disturbed all the time", x, 9, ticks);
        countDue("woken once", x, 10, 1);
        lampDue("to blame all the time", x, 1, 10, ticks);
        due("ticks(200)", x.ticks(200), ticks + 200);
        Check.holds("512 calls at most", calls + 7 <= CALLS);
    }

    private static void mostChanges() {
        CoughLamps x = new CoughLamps();
        int eyes = 3;
        for (int i = 0; i < CALLS - 8; i++) {
            due("set(EYES, " + i % 21 + ")", x.set(CoughLamps.EYES, i % 21), eyes);
            eyes = i % 21;
        }
        for (int left = 5; left >= 0; left--) {
            due("undo()", x.undo(), left);
        }
        due("undo()", x.undo(), NOT_POSSIBLE);
        countDue("six changes ago", x, 11, (CALLS - 8 - 7) % 21);
    }

    /** Forecasts change nothing, however many there are. */
    private static void dearestForecasts() {
        CoughLamps x = fullStreet();
        int calls = 16 + 8 * 8 + 3;
        int reach = x.bestReach(200);
        int needless = x.needless();
        calls += 2;
        for (; calls + 2 <= CALLS - 1; calls += 2) {
            due("bestReach(200)", x.bestReach(200), reach);
            due("needless()", x.needless(), needless);
        }
        due("ticks(1)", x.ticks(1), 4);
    }
}
