/** Long runs of calls that come from a counter alone; each answer is compared with that of PlainStreet. */
public final class RandomRunsTest {
    private static final int RUNS = 1500;
    // Of the 512 calls that the document promises, looking at all takes up to 291, and a last text up to 40.
    private static final int CALLS = 180;
    private static final String[] PIECES = {"w", "c", "m", "t", ";", "/", ">", "*", "=", "0", "1", "2", "3", "9", "10", "99",
        "100", "999", "x"};

    private long seed;
    private CoughLamps x;
    private PlainStreet y;
    private int run;
    private boolean dense;
    private int calls;

    public static void main(String[] args) {
        RandomRunsTest test = new RandomRunsTest();
        for (int run = 1; run <= RUNS && Check.wrong() < 20; run++) {
            test.run(run);
        }
        Check.finish();
    }

    private void run(int number) {
        run = number;
        seed = number * 7919L;
        x = new CoughLamps();
        y = new PlainStreet();
        dense = number % 2 == 0;
        calls = 0;
        setUp();
        while (calls < CALLS) {
            call(below(100));
        }
        lookAtAll();
    }

    private int below(int bound) {
        seed = seed * 6364136223846793005L + 1442695040888963407L;
        return (int) ((seed >>> 33) % bound);
    }

    /** Mostly from least to most, at times one beyond, rarely far beyond. */
    private int near(int least, int most) {
        int kind = below(40);
        if (kind == 0) {
            return least - 1;
        }
        if (kind == 1) {
            return most + 1;
        }
        if (kind == 2 && below(4) == 0) {
            return below(2) == 0 ? Integer.MIN_VALUE : Integer.MAX_VALUE;
        }
        return least + below(most - least + 1);
    }

    private int step() {
        return dense ? 30 + below(30) : near(0, 99);
    }

    private void due(String call, long got, long want) {
        calls++;
        Check.due("run " + run + ": " + call, got, want);
    }

    private void setUp() {
        for (int i = below(3); i > 0; i--) {
            setting();
        }
        for (int i = below(17); i > 0; i--) {
            lamp();
        }
        for (int i = below(5); i > 0; i--) {
            house();
        }
        for (int i = below(6); i > 0; i--) {
            walker();
            goal();
        }
    }

    private void setting() {
        int[] least = {0, 1, 1, 0, 1, 0};
        int[] most = {20, 60, 50, 50, 10, 6};
        int[] usual = {4, 16, 6, 4, 4, 6};
        int setting = near(0, 5);
        int value = 1;
        if (setting >= 0 && setting <= 5) {
            value = below(3) == 0 ? near(least[setting], most[setting]) : near(least[setting], usual[setting]);
        }
        due("set(" + setting + ", " + value + ")", x.set(setting, value), y.set(setting, value));
    }

    private void lamp() {
        int step = step();
        int shine = below(2) == 0 ? near(1, 30) : near(1, 6);
        due("lamp(" + step + ", " + shine + ")", x.lamp(step, shine), y.lamp(step, shine));
    }

    private void house() {
        int step = step();
        due("house(" + step + ")", x.house(step), y.house(step));
    }

    private void walker() {
        int step = step();
        int pace = near(1, 4);
        due("walker(" + step + ", " + pace + ")", x.walker(step, pace), y.walker(step, pace));
    }

    private void goal() {
        int walker = near(0, Math.max(0, y.count(3) - 1));
        int step = step();
        int pause = below(2) == 0 ? 0 : near(0, 20);
        due("goal(" + walker + ", " + step + ", " + pause + ")", x.goal(walker, step, pause), y.goal(walker, step, pause));
    }

    private int someLamp() {
        return near(0, Math.max(0, y.count(1) - 1));
    }

    private void call(int kind) {
        if (kind < 40) {
            change(kind);
        } else if (kind < 60) {
            look(kind);
        } else if (kind < 70) {
            forecast(kind);
        } else if (kind < 90) {
            text(kind);
        } else {
            goBack(kind);
        }
    }

    private void change(int kind) {
        int lamp = someLamp();
        if (kind < 2) {
            setting();
        } else if (kind < 4) {
            lamp();
        } else if (kind < 6) {
            house();
        } else if (kind < 9) {
            walker();
        } else if (kind < 14) {
            goal();
        } else if (kind < 18) {
            int how = near(0, 2);
            due("mend(" + lamp + ", " + how + ")", x.mend(lamp, how), y.mend(lamp, how));
        } else if (kind < 24) {
            due("cough(" + lamp + ")", x.cough(lamp), y.cough(lamp));
        } else {
            int ticks = below(15) == 0 ? near(1, 200) : near(1, 4);
            due("ticks(" + ticks + ")", x.ticks(ticks), y.ticks(ticks));
        }
    }

    private void look(int kind) {
        int lamp = someLamp();
        int walker = near(0, Math.max(0, y.count(3) - 1));
        int house = near(0, Math.max(0, y.count(2) - 1));
        if (kind < 48) {
            int what = near(0, 10);
            due("ofLamp(" + lamp + ", " + what + ")", x.ofLamp(lamp, what), y.ofLamp(lamp, what));
        } else if (kind < 52) {
            int what = near(0, 8);
            due("ofWalker(" + walker + ", " + what + ")", x.ofWalker(walker, what), y.ofWalker(walker, what));
        } else if (kind < 54) {
            int what = near(0, 2);
            due("ofHouse(" + house + ", " + what + ")", x.ofHouse(house, what), y.ofHouse(house, what));
        } else if (kind < 56) {
            int step = step();
            due("lightAt(" + step + ")", x.lightAt(step), y.lightAt(step));
        } else if (kind < 58) {
            due("hearers(" + lamp + ")", x.hearers(lamp), y.hearers(lamp));
        } else {
            int what = near(0, 18);
            due("count(" + what + ")", x.count(what), y.count(what));
        }
    }

    private void forecast(int kind) {
        int ticks = below(3) == 0 ? near(1, 200) : near(1, 20);
        if (kind < 64) {
            int walker = near(0, Math.max(0, y.count(3) - 1));
            due("homeIn(" + walker + ")", x.homeIn(walker), y.homeIn(walker));
        } else if (kind < 68) {
            int what = near(0, 3);
            due("brings(" + ticks + ", " + what + ")", x.brings(ticks, what), y.brings(ticks, what));
        } else if (below(4) != 0) {
            due("count(0)", x.count(0), y.count(0));
        } else if (kind < 69) {
            due("bestReach(" + ticks + ")", x.bestReach(ticks), y.bestReach(ticks));
        } else {
            due("needless()", x.needless(), y.needless());
        }
    }

    private void text(int kind) {
        if (kind < 72) {
            due("wipe()", x.wipe(), y.wipe());
        } else if (kind < 78) {
            putAll(good());
        } else if (kind < 82) {
            putAll(PIECES[below(PIECES.length)]);
        } else if (kind < 84) {
            long number = oddNumber();
            due("put(" + number + ")", x.put(number), y.put(number));
        } else if (kind < 87) {
            due("fault()", x.fault(), y.fault());
        } else {
            due("carryOut()", x.carryOut(), y.carryOut());
        }
    }

    private String good() {
        StringBuilder text = new StringBuilder();
        if (y.count(17) > 0) {
            text.append(';');
        }
        switch (below(4)) {
            case 0:
                text.append('w').append(below(100)).append('/').append(below(16) == 0 ? 5 : 1 + below(4));
                for (int i = below(3) == 0 ? below(9) : below(3); i > 0; i--) {
                    text.append('>').append(below(20) == 0 ? 100 : below(100));
                    if (below(2) == 0) {
                        text.append('*').append(below(22));
                    }
                }
                break;
            case 1: text.append('c').append(below(y.count(1) + 1)); break;
            case 2: text.append('m').append(below(y.count(1) + 1)).append('=').append(below(3)); break;
            default: text.append('t').append(below(12) == 0 ? 150 + below(60) : below(5)); break;
        }
        return text.toString();
    }

    private void putAll(String text) {
        for (int from = 0; from < text.length();) {
            int to = Math.min(text.length(), from + 1 + below(8));
            long number = 0;
            for (int i = from; i < to; i++) {
                number = number << 8 | text.charAt(i);
            }
            due("put(" + number + ")", x.put(number), y.put(number));
            from = to;
        }
    }

    private long oddNumber() {
        long number = 0;
        for (int i = below(9); i > 0; i--) {
            int kind = below(12);
            number = number << 8 | (kind == 0 ? 0 : kind == 1 ? below(256) : 33 + below(94));
        }
        return number;
    }

    private void goBack(int kind) {
        int slot = near(0, 1);
        if (kind < 95) {
            due("undo()", x.undo(), y.undo());
        } else if (kind < 97) {
            due("save(" + slot + ")", x.save(slot), y.save(slot));
        } else {
            due("restore(" + slot + ")", x.restore(slot), y.restore(slot));
        }
    }

    private void lookAtAll() {
        for (int what = 0; what < 19; what++) {
            due("count(" + what + ")", x.count(what), y.count(what));
        }
        for (int i = 0; i < 11 * y.count(1); i++) {
            due("ofLamp(" + i / 11 + ", " + i % 11 + ")", x.ofLamp(i / 11, i % 11), y.ofLamp(i / 11, i % 11));
        }
        for (int i = 0; i < 3 * y.count(2); i++) {
            due("ofHouse(" + i / 3 + ", " + i % 3 + ")", x.ofHouse(i / 3, i % 3), y.ofHouse(i / 3, i % 3));
        }
        for (int i = 0; i < 9 * y.count(3); i++) {
            due("ofWalker(" + i / 9 + ", " + i % 9 + ")", x.ofWalker(i / 9, i % 9), y.ofWalker(i / 9, i % 9));
        }
    }
}
