/** Streets to test with, and looks at what they tell. */
abstract class Streets {
    static final int NO_SUCH = -1;
    static final int BAD_VALUE = -2;
    static final int BAD_TEXT = -3;
    static final int TOO_MANY = -4;
    static final int NOT_POSSIBLE = -5;
    static final int NONE = -6;
    static final int[] WRONG = {-1, Integer.MIN_VALUE, Integer.MAX_VALUE};

    static void lampDue(String when, CoughLamps x, int lamp, int what, int want) {
        Check.due(when + ": ofLamp(" + lamp + ", " + what + ")", x.ofLamp(lamp, what), want);
    }

    static void walkerDue(String when, CoughLamps x, int walker, int what, int want) {
        Check.due(when + ": ofWalker(" + walker + ", " + what + ")", x.ofWalker(walker, what), want);
    }

    static void houseDue(String when, CoughLamps x, int house, int what, int want) {
        Check.due(when + ": ofHouse(" + house + ", " + what + ")", x.ofHouse(house, what), want);
    }

    static void countDue(String when, CoughLamps x, int what, int want) {
        Check.due(when + ": count(" + what + ")", x.count(what), want);
    }

    /** A street with lamps of shine 5 at these steps. */
    static CoughLamps lampsAt(int... steps) {
        CoughLamps x = new CoughLamps();
        for (int i = 0; i < steps.length; i++) {
            Check.due("lamp(" + steps[i] + ", 5)", x.lamp(steps[i], 5), i);
        }
        return x;
    }

    static int putText(CoughLamps x, String text) {
        int answer = 0;
        for (int from = 0; from < text.length(); from += 8) {
            answer = x.put(pack(text.substring(from, Math.min(from + 8, text.length()))));
        }
        return answer;
    }

    static long pack(String signs) {
        long number = 0;
        for (int i = 0; i < signs.length(); i++) {
            number = number << 8 | signs.charAt(i);
        }
        return number;
    }

    static int faultOf(String text) {
        CoughLamps x = new CoughLamps();
        putText(x, text);
        return x.fault();
    }

    static int carried(CoughLamps x, String text) {
        x.wipe();
        putText(x, text);
        return x.carryOut();
    }

    /** All that the object tells of its state, but not of pad and history. */
    static int[] look(CoughLamps x) {
        int lamps = x.count(1);
        int houses = x.count(2);
        int walkers = x.count(3);
        int[] all = new int[17 + 11 * lamps + 3 * houses + 9 * walkers];
        int n = 0;
        for (int what = 0; what < 17; what++) {
            all[n++] = x.count(what);
        }
        for (int i = 0; i < 11 * lamps; i++) {
            all[n++] = x.ofLamp(i / 11, i % 11);
        }
        for (int i = 0; i < 3 * houses; i++) {
            all[n++] = x.ofHouse(i / 3, i % 3);
        }
        for (int i = 0; i < 9 * walkers; i++) {
            all[n++] = x.ofWalker(i / 9, i % 9);
        }
        return all;
    }

    static void same(String when, int[] want, int[] got) {
        Check.due(when + ": numbers to look at", got.length, want.length);
        for (int i = 0; i < Math.min(want.length, got.length); i++) {
            Check.due(when + ": number " + i, got[i], want[i]);
        }
    }
}
