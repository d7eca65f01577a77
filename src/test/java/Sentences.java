import java.util.function.Supplier;
import java.util.function.ToIntFunction;

/** A test for each sentence of the document: it says the promise's number and the sentence that it holds. */
abstract class Sentences extends Streets {
    static final String IN_ORDER =
            "it names its errors in the order in which they are checked, and the first one that applies is returned.";
    static final String CHANGES_NOTHING = "A call that returns an error changes nothing.";
    static final String IS_A_CHANGE = "This is a change.";

    static void holds(int promise, String sentence, Runnable test) {
        String name = "promise " + promise + ": " + sentence;
        Check.begin(name);
        test.run();
        System.out.println((Check.end() ? "holds, " : "DOES NOT HOLD, ") + name);
        DocumentText.quote(promise, sentence);
    }

    static void due(String call, long got, long want) {
        Check.due(call, got, want);
    }

    /** The call is refused with this error, and all goes on as if it had not been made. */
    static void refused(String call, int error, Supplier<CoughLamps> street, ToIntFunction<CoughLamps> made) {
        CoughLamps x = street.get();
        CoughLamps same = street.get();
        due(call, made.applyAsInt(x), error);
        sameInAll(call + " changes nothing", same, x);
        CoughLamps undone = street.get();
        due(call, made.applyAsInt(undone), error);
        same = street.get();
        due(call + ", then undo()", undone.undo(), same.undo());
        sameInAll(call + ", then undo()", same, undone);
        CoughLamps first = street.get();
        due(call, made.applyAsInt(first), error);
        same = street.get();
        for (int i = 0; i < 7; i++) {
            due(call + ", then undo() to the oldest state", first.undo(), same.undo());
        }
        sameInAll(call + ", then undo() to the oldest state", same, first);
        CoughLamps restored = street.get();
        due(call, made.applyAsInt(restored), error);
        same = street.get();
        due(call + ", then restore(1)", restored.restore(1), same.restore(1));
        due(call + ", then restore(0)", restored.restore(0), same.restore(0));
        sameInAll(call + ", then restore(0)", same, restored);
    }

    /** The call is no error and records one state, the one before it. */
    static void isChange(String call, Supplier<CoughLamps> street, ToIntFunction<CoughLamps> made) {
        CoughLamps x = street.get();
        int recorded = x.count(18);
        Check.holds("there is a place for one state more", recorded < 6);
        Check.holds(call + " is no error", made.applyAsInt(x) >= 0);
        countDue(call, x, 18, recorded + 1);
        due(call + ", then undo()", x.undo(), recorded);
        same(call + ", then undo()", look(street.get()), look(x));
    }

    /** Looking is no change: nothing is different then. */
    static void changesNothing(String call, Supplier<CoughLamps> street, ToIntFunction<CoughLamps> made) {
        CoughLamps x = street.get();
        int answer = made.applyAsInt(x);
        Check.holds(call + " is no error", answer >= 0 || answer == NONE);
        sameInAll(call, street.get(), x);
    }

    private static void sameInAll(String when, CoughLamps want, CoughLamps got) {
        due(when + ": fault()", got.fault(), want.fault());
        due(when + ": count(17)", got.count(17), want.count(17));
        due(when + ": count(18)", got.count(18), want.count(18));
        same(when, look(want), look(got));
    }

    static void pass(CoughLamps x, int ticks) {
        if (ticks > 0) {
            x.ticks(ticks);
        }
    }

    static boolean isLit(CoughLamps x, int lamp) {
        return x.ofLamp(lamp, 2) == CoughLamps.LIT;
    }

    /**
     * Three lamps, a house, one walker on the way and one who stays, at tick 5; something is on the pad and in slot 0,
     * and the history has 5 states.
     */
    static CoughLamps busyStreet() {
        CoughLamps x = lampsAt(10, 20, 34);
        x.house(21);
        x.walker(7, 2);
        x.goal(0, 20, 3);
        x.goal(0, 25, 2);
        x.save(0);
        putText(x, "c0;t3");
        for (int i = 0; i < 3; i++) {
            x.ticks(1);
        }
        for (int i = 0; i < 3; i++) {
            x.undo();
        }
        x.walker(90, 1);
        x.ticks(5);
        return x;
    }

    /** 16 lamps, 8 houses, and 8 walkers with 6 goals each. */
    static CoughLamps fullStreet() {
        CoughLamps x = new CoughLamps();
        for (int i = 0; i < 16; i++) {
            x.lamp(6 * i, 3);
        }
        for (int i = 0; i < 8; i++) {
            x.house(12 * i + 1);
            x.walker(12 * i, 1);
            for (int j = 0; j < 6; j++) {
                x.goal(i, 12 * i + j, 5);
            }
        }
        x.save(0);
        x.ticks(2);
        x.ticks(1);
        return x;
    }
}
