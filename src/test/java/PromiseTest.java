/** For each promise: ordinary calls, the edges that the document names, and wrong calls. */
public final class PromiseTest extends Streets {
    public static void main(String[] args) {
        promise1NewObject();
        promise2Set();
        promise2TicksLeftStay();
        promise3Lamp();
        promise4House();
        promise5Walker();
        promise6Goal();
        promise7Mend();
        promise8Cough();
        promise8CoughIsAheadOfTheTick();
        promise9Ticks();
        promise9WalkersGoAndRest();
        promise9LampsFade();
        promise9CoughsInTurn();
        promise9DueLampsHaveCoughedAheadOfTheFirst();
        promise9SeeingLampsCough();
        promise9LightAndBlame();
        promise9FullStreet();
        promise10OfLamp();
        promise11OfWalker();
        promise12OfHouse();
        promise13LightAt();
        promise14Hearers();
        promise15Count();
        promise16HomeIn();
        promise17Brings();
        promise18BestReach();
        promise19Needless();
        promise20Put();
        promise21Wipe();
        promise22Fault();
        promise23CarryOut();
        promise24Undo();
        promise24WhatIsAChange();
        promise25Save();
        promise26Restore();
        Check.finish();
    }

    // ---- setting up

    private static void promise1NewObject() {
        CoughLamps x = new CoughLamps();
        int[] counts = {0, 0, 0, 0, 0, 0, 0, 0, 0, 0, 0, 3, 14, 8, 6, 2, 2, 0, 0};
        for (int what = 0; what < counts.length; what++) {
            countDue("new", x, what, counts[what]);
        }
        Check.due("new: lightAt(0)", x.lightAt(0), 0);
        Check.due("new: needless()", x.needless(), 0);
        Check.due("new: bestReach(1)", x.bestReach(1), 1);
        Check.due("new: ofLamp(0, 0)", x.ofLamp(0, 0), NO_SUCH);
        Check.due("new: ofWalker(0, 0)", x.ofWalker(0, 0), NO_SUCH);
        Check.due("new: ofHouse(0, 0)", x.ofHouse(0, 0), NO_SUCH);
        Check.due("new: fault()", x.fault(), 0);
    }

    private static void promise2Set() {
        int[] first = {3, 14, 8, 6, 2, 2};
        int[] least = {0, 1, 1, 0, 1, 0};
        int[] most = {20, 60, 50, 50, 10, 6};
        for (int setting = 0; setting < 6; setting++) {
            CoughLamps x = new CoughLamps();
            String when = "setting " + setting;
            Check.due(when + " below", x.set(setting, least[setting] - 1), BAD_VALUE);
            Check.due(when + " above", x.set(setting, most[setting] + 1), BAD_VALUE);
            countDue(when, x, 11 + setting, first[setting]);
            countDue(when, x, 18, 0);
            Check.due(when + " least", x.set(setting, least[setting]), first[setting]);
            Check.due(when + " most", x.set(setting, most[setting]), least[setting]);
            countDue(when, x, 11 + setting, most[setting]);
            countDue(when, x, 18, 2);
            for (int other = 0; other < 6; other++) {
                countDue(when, x, 11 + other, other == setting ? most[other] : first[other]);
            }
            for (int wrong : WRONG) {
                Check.due(when + " wrong", x.set(setting, wrong), BAD_VALUE);
                Check.due("no setting", x.set(wrong, 1), BAD_VALUE);
            }
        }
        Check.due("set(6, 1)", new CoughLamps().set(6, 1), BAD_VALUE);
    }

    private static void promise2TicksLeftStay() {
        CoughLamps x = lampsAt(10, 20);
        x.set(CoughLamps.CHAIN, 1);
        x.cough(0);
        x.set(CoughLamps.AWAKE, 3);
        x.set(CoughLamps.WAIT, 9);
        lampDue("set while lit", x, 1, 4, 8);
        lampDue("set while waiting", x, 1, 5, 2);
        x.ticks(8);
        lampDue("dim", x, 1, 2, CoughLamps.DIM_LIT);
        lampDue("dim", x, 1, 4, 6);
        x.set(CoughLamps.DIM, 0);
        lampDue("set while dim", x, 1, 4, 6);
        x.ticks(5);
        lampDue("still dim", x, 1, 2, CoughLamps.DIM_LIT);
        x.ticks(1);
        lampDue("dim no more", x, 1, 2, CoughLamps.ASLEEP);
    }

    private static void promise3Lamp() {
        CoughLamps x = new CoughLamps();
        Check.due("lamp(-1, 1)", x.lamp(-1, 1), BAD_VALUE);
        Check.due("lamp(100, 1)", x.lamp(100, 1), BAD_VALUE);
        Check.due("lamp(0, 0)", x.lamp(0, 0), BAD_VALUE);
        Check.due("lamp(0, 31)", x.lamp(0, 31), BAD_VALUE);
        Check.due("lamp(0, 1)", x.lamp(0, 1), 0);
        Check.due("lamp(99, 30)", x.lamp(99, 30), 1);
        Check.due("lamp(99, 31)", x.lamp(99, 31), BAD_VALUE);
        Check.due("lamp(99, 30) again", x.lamp(99, 30), NOT_POSSIBLE);
        Check.due("lamp(0, 2)", x.lamp(0, 2), NOT_POSSIBLE);
        countDue("two lamps", x, 1, 2);
        countDue("two lamps", x, 18, 2);
        for (int i = 2; i < 16; i++) {
            Check.due("lamp " + i, x.lamp(i, i), i);
        }
        Check.due("a lamp too many", x.lamp(50, 1), TOO_MANY);
        Check.due("too many ahead of not possible", x.lamp(0, 1), TOO_MANY);
        Check.due("bad ahead of too many", x.lamp(100, 1), BAD_VALUE);
        countDue("16 lamps", x, 1, 16);
        lampDue("16 lamps", x, 15, 0, 15);
        lampDue("16 lamps", x, 15, 1, 15);
        for (int wrong : WRONG) {
            Check.due("wrong step", x.lamp(wrong, 1), BAD_VALUE);
            Check.due("wrong shine", x.lamp(50, wrong), BAD_VALUE);
        }
    }

    private static void promise4House() {
        CoughLamps x = new CoughLamps();
        Check.due("house(-1)", x.house(-1), BAD_VALUE);
        Check.due("house(100)", x.house(100), BAD_VALUE);
        for (int i = 0; i < 8; i++) {
            Check.due("house " + i, x.house(i < 4 ? 0 : 99), i);
        }
        Check.due("a house too many", x.house(5), TOO_MANY);
        Check.due("bad ahead of too many", x.house(100), BAD_VALUE);
        Check.due("bad ahead of too many", x.house(Integer.MIN_VALUE), BAD_VALUE);
        countDue("8 houses", x, 2, 8);
        countDue("8 houses", x, 18, 6);
    }

    private static void promise5Walker() {
        CoughLamps x = new CoughLamps();
        Check.due("walker(-1, 1)", x.walker(-1, 1), BAD_VALUE);
        Check.due("walker(100, 1)", x.walker(100, 1), BAD_VALUE);
        Check.due("walker(0, 0)", x.walker(0, 0), BAD_VALUE);
        Check.due("walker(0, 5)", x.walker(0, 5), BAD_VALUE);
        for (int i = 0; i < 8; i++) {
            Check.due("walker " + i, x.walker(i < 4 ? 0 : 99, i % 4 + 1), i);
        }
        Check.due("a walker too many", x.walker(5, 1), TOO_MANY);
        Check.due("bad ahead of too many", x.walker(5, 5), BAD_VALUE);
        walkerDue("new", x, 7, 0, 99);
        walkerDue("new", x, 7, 1, 4);
        walkerDue("new", x, 7, 2, 0);
        walkerDue("new", x, 7, 3, NONE);
        countDue("8 walkers", x, 3, 8);
        countDue("8 walkers", x, 4, 8);
        x.goal(0, 0, 0);
        x.ticks(1);
        countDue("one home", x, 3, 8);
        countDue("one home", x, 4, 7);
        Check.due("who is home came, too", x.walker(5, 1), TOO_MANY);
        for (int wrong : WRONG) {
            Check.due("wrong step", x.walker(wrong, 1), BAD_VALUE);
            Check.due("wrong pace", x.walker(1, wrong), BAD_VALUE);
        }
    }

    private static void promise6Goal() {
        CoughLamps x = new CoughLamps();
        Check.due("no walker", x.goal(0, 100, 21), NO_SUCH);
        x.walker(10, 4);
        for (int wrong : WRONG) {
            Check.due("wrong walker", x.goal(wrong, 0, 0), NO_SUCH);
            Check.due("wrong step", x.goal(0, wrong, 0), BAD_VALUE);
            Check.due("wrong pause", x.goal(0, 0, wrong), BAD_VALUE);
        }
        Check.due("goal(1, 0, 0)", x.goal(1, 0, 0), NO_SUCH);
        Check.due("goal(0, 100, 0)", x.goal(0, 100, 0), BAD_VALUE);
        Check.due("goal(0, 0, 21)", x.goal(0, 0, 21), BAD_VALUE);
        Check.due("goal(0, 12, 0)", x.goal(0, 12, 0), 1);
        Check.due("goal(0, 0, 20)", x.goal(0, 0, 20), 2);
        Check.due("goal(0, 99, 0)", x.goal(0, 99, 0), 3);
        for (int left = 4; left <= 6; left++) {
            Check.due("goal " + left, x.goal(0, 5, 0), left);
        }
        Check.due("a goal too many", x.goal(0, 5, 0), TOO_MANY);
        Check.due("bad ahead of too many", x.goal(0, 5, 21), BAD_VALUE);
        walkerDue("6 goals", x, 0, 3, 12);
        x.ticks(1);
        walkerDue("first goal done", x, 0, 3, 0);
        walkerDue("first goal done", x, 0, 4, 5);
        Check.due("one goal more", x.goal(0, 7, 0), 6);
        goalsAreBehindThoseThatAreLeft();
        goalsAreGoneToInTheirOrder();
    }

    private static void goalsAreGoneToInTheirOrder() {
        CoughLamps x = new CoughLamps();
        x.walker(0, 4);
        for (int i = 1; i <= 6; i++) {
            Check.due("goal " + i, x.goal(0, i, i % 2), i);
        }
        int[] steps = {1, 1, 2, 3, 3, 4, 5, 5, 6};
        int[] goes = {1, 2, 3, 3, 4, 5, 5, 6, NONE};
        for (int i = 0; i < steps.length; i++) {
            x.ticks(1);
            walkerDue("tick " + i, x, 0, 0, steps[i]);
            walkerDue("tick " + i, x, 0, 3, goes[i]);
        }
        walkerDue("all done", x, 0, 2, 1);
    }

    private static void goalsAreBehindThoseThatAreLeft() {
        CoughLamps x = new CoughLamps();
        x.walker(0, 4);
        x.goal(0, 2, 2);
        x.ticks(1);
        Check.due("goal while the walker rests", x.goal(0, 4, 1), 2);
        walkerDue("resting", x, 0, 3, 2);
        x.ticks(2);
        walkerDue("rested", x, 0, 3, 4);
        x.ticks(2);
        walkerDue("home", x, 0, 2, 1);
        Check.due("home", x.goal(0, 4, 1), NOT_POSSIBLE);
        Check.due("bad ahead of home", x.goal(0, 4, 21), BAD_VALUE);
    }

    private static void promise7Mend() {
        CoughLamps x = lampsAt(10, 20, 30);
        Check.due("no lamp", x.mend(3, 7), NO_SUCH);
        for (int wrong : WRONG) {
            Check.due("wrong lamp", x.mend(wrong, 0), NO_SUCH);
            Check.due("wrong mode", x.mend(0, wrong), BAD_VALUE);
        }
        Check.due("mend(0, 3)", x.mend(0, 3), BAD_VALUE);
        x.cough(0);
        Check.due("blind", x.mend(1, 1), 0);
        lampDue("blind goes on", x, 1, 2, CoughLamps.LIT);
        lampDue("blind goes on", x, 1, 4, 8);
        lampDue("blind goes on", x, 1, 5, 2);
        Check.due("broken", x.mend(1, 2), 1);
        lampDue("broken", x, 1, 2, CoughLamps.ASLEEP);
        lampDue("broken", x, 1, 3, 2);
        lampDue("broken", x, 1, 4, 0);
        lampDue("broken", x, 1, 5, NONE);
        lampDue("broken", x, 1, 6, NONE);
        lampDue("broken", x, 1, 9, 1);
        Check.due("broken hears nothing", x.cough(0), 0);
        Check.due("well", x.mend(1, 0), 2);
        lampDue("well again", x, 1, 2, CoughLamps.ASLEEP);
        Check.due("well hears", x.cough(0), 1);
        Check.due("well once more", x.mend(1, 0), 0);
        lampDue("well once more", x, 1, 2, CoughLamps.LIT);
    }

    private static void promise8Cough() {
        CoughLamps x = lampsAt(10, 24, 38, 25);
        Check.due("cough(4)", x.cough(4), NO_SUCH);
        for (int wrong : WRONG) {
            Check.due("wrong lamp", x.cough(wrong), NO_SUCH);
        }
        Check.due("cough(1)", x.cough(1), 3);
        lampDue("who coughs is not lit", x, 1, 2, CoughLamps.ASLEEP);
        lampDue("who coughs does not wait", x, 1, 5, NONE);
        lampDue("who coughs does not hear", x, 1, 9, 0);
        lampDue("cough", x, 1, 8, 1);
        for (int lamp : new int[] {0, 2, 3}) {
            lampDue("hears", x, lamp, 2, CoughLamps.LIT);
            lampDue("hears", x, lamp, 4, 8);
            lampDue("hears", x, lamp, 5, 2);
            lampDue("hears", x, lamp, 6, 1);
            lampDue("hears", x, lamp, 9, 1);
        }
        Check.due("15 steps are too far", x.cough(0), 1);
        lampDue("hears lamp 0", x, 1, 5, 2);
        lampDue("does not hear lamp 0", x, 3, 9, 1);
        x.mend(0, 1);
        Check.due("a blind one coughs", x.cough(0), 1);
        x.mend(0, 2);
        Check.due("a broken one does not", x.cough(0), NOT_POSSIBLE);
        Check.due("a broken one does not hear", x.cough(1), 2);
        x.set(CoughLamps.CHAIN, 0);
        CoughLamps y = lampsAt(10, 20);
        y.set(CoughLamps.CHAIN, 0);
        y.cough(0);
        lampDue("no chain", y, 1, 2, CoughLamps.LIT);
        lampDue("no chain", y, 1, 5, NONE);
        CoughLamps z = new CoughLamps();
        Check.due("no lamps", z.cough(0), NO_SUCH);
    }

    private static void promise8CoughIsAheadOfTheTick() {
        CoughLamps x = lampsAt(10, 20);
        x.set(CoughLamps.WAIT, 1);
        x.cough(0);
        x.cough(1);
        lampDue("both wait", x, 0, 5, 1);
        lampDue("both wait", x, 1, 5, 1);
        x.ticks(1);
        lampDue("both have coughed", x, 0, 8, 2);
        lampDue("both have coughed", x, 1, 8, 2);
        lampDue("neither waits", x, 0, 5, NONE);
        lampDue("neither waits", x, 1, 5, NONE);
        x.cough(1);
        lampDue("the last tick's cough is over", x, 0, 5, 1);
        CoughLamps y = lampsAt(10, 20);
        y.set(CoughLamps.CHAIN, 0);
        y.cough(0);
        y.ticks(1);
        lampDue("not lit anew in the tick", y, 1, 4, 7);
        CoughLamps z = lampsAt(10, 20);
        z.cough(0);
        z.ticks(1);
        z.set(CoughLamps.WAIT, 5);
        z.cough(0);
        lampDue("who waits does not wait anew", z, 1, 5, 1);
        lampDue("who waits is lit anew", z, 1, 4, 8);
        z.cough(1);
        lampDue("who is made to cough goes on waiting", z, 1, 5, 1);
    }

    // ---- ticks

    private static void promise9Ticks() {
        CoughLamps x = new CoughLamps();
        Check.due("ticks(0)", x.ticks(0), BAD_VALUE);
        Check.due("ticks(201)", x.ticks(201), BAD_VALUE);
        for (int wrong : WRONG) {
            Check.due("wrong ticks", x.ticks(wrong), BAD_VALUE);
        }
        Check.due("ticks(1)", x.ticks(1), 1);
        Check.due("ticks(200)", x.ticks(200), 201);
        countDue("tick", x, 0, 201);
    }

    private static void promise9WalkersGoAndRest() {
        CoughLamps x = new CoughLamps();
        x.walker(10, 3);
        x.ticks(2);
        walkerDue("no goal", x, 0, 0, 10);
        walkerDue("no goal", x, 0, 2, 0);
        x.goal(0, 14, 2);
        x.goal(0, 14, 0);
        x.goal(0, 9, 1);
        int[] steps = {13, 14, 14, 14, 14, 11, 9, 9};
        int[] rested = {NONE, 0, 1, NONE, NONE, NONE, 0, NONE};
        int[] left = {3, 3, 3, 2, 1, 1, 1, 0};
        int[] walked = {3, 4, 4, 4, 4, 7, 9, 9};
        for (int i = 0; i < steps.length; i++) {
            x.ticks(1);
            String when = "way " + i;
            walkerDue(when, x, 0, 0, steps[i]);
            walkerDue(when, x, 0, 5, rested[i]);
            walkerDue(when, x, 0, 4, left[i]);
            walkerDue(when, x, 0, 8, walked[i]);
            walkerDue(when, x, 0, 2, i == 7 ? 1 : 0);
        }
        x.ticks(9);
        walkerDue("home for ever", x, 0, 0, 9);
        walkerDue("home for ever", x, 0, 6, 9);
    }

    private static void promise9LampsFade() {
        CoughLamps x = lampsAt(10, 20);
        x.set(CoughLamps.CHAIN, 0);
        x.set(CoughLamps.AWAKE, 2);
        x.set(CoughLamps.DIM, 2);
        x.cough(0);
        int[] does = {2, 1, 1, 0, 0};
        int[] left = {1, 2, 1, 0, 0};
        int[] light = {4, 5, 6, 6, 6};
        for (int i = 0; i < does.length; i++) {
            x.ticks(1);
            lampDue("fades " + i, x, 1, 2, does[i]);
            lampDue("fades " + i, x, 1, 4, left[i]);
            lampDue("fades " + i, x, 1, 7, light[i]);
        }
        x.set(CoughLamps.DIM, 0);
        x.cough(0);
        x.ticks(2);
        lampDue("no dim light", x, 1, 2, CoughLamps.ASLEEP);
        lampDue("no dim light", x, 1, 4, 0);
        lampDue("no dim light", x, 1, 7, 10);
        x.set(CoughLamps.DIM, 1);
        x.cough(0);
        x.ticks(2);
        lampDue("one dim tick", x, 1, 2, CoughLamps.DIM_LIT);
        x.ticks(1);
        lampDue("one dim tick", x, 1, 2, CoughLamps.ASLEEP);
        lampDue("one dim tick", x, 1, 7, 15);
    }

    private static void promise9CoughsInTurn() {
        CoughLamps x = lampsAt(0, 14, 28, 42);
        x.cough(0);
        x.ticks(1);
        lampDue("waits", x, 1, 5, 1);
        lampDue("has less", x, 1, 4, 7);
        x.ticks(1);
        lampDue("has coughed", x, 1, 8, 1);
        lampDue("has coughed", x, 1, 5, NONE);
        lampDue("has coughed", x, 1, 6, NONE);
        lampDue("hears lamp 1", x, 0, 6, 2);
        lampDue("hears lamp 1", x, 2, 5, 2);
        lampDue("hears lamp 1", x, 2, 6, 2);
        lampDue("lit anew", x, 2, 4, 8);
        x.ticks(2);
        lampDue("the last of the chain", x, 3, 2, CoughLamps.LIT);
        lampDue("the last of the chain", x, 3, 5, NONE);
        lampDue("heard both", x, 1, 9, 3);
        x.ticks(20);
        countDue("all is quiet", x, 10, 4);
        countDue("all is quiet", x, 5, 0);
        CoughLamps y = lampsAt(0, 14, 28);
        y.cough(0);
        y.set(CoughLamps.CHAIN, 0);
        y.ticks(2);
        lampDue("who waits coughs yet", y, 1, 8, 1);
        lampDue("without a chain", y, 2, 5, NONE);
    }

    private static void promise9DueLampsHaveCoughedAheadOfTheFirst() {
        CoughLamps x = lampsAt(10, 20, 22);
        x.cough(0);
        x.ticks(2);
        lampDue("due together", x, 1, 8, 1);
        lampDue("due together", x, 2, 8, 1);
        lampDue("lower one", x, 1, 5, NONE);
        lampDue("higher one", x, 2, 5, NONE);
        lampDue("the first waits", x, 0, 5, 2);
        lampDue("heard each other", x, 2, 9, 2);
    }

    private static void promise9SeeingLampsCough() {
        CoughLamps x = lampsAt(10, 16, 22);
        x.walker(13, 1);
        x.ticks(1);
        lampDue("sees", x, 0, 8, 1);
        lampDue("sees, and was not lit ahead of the step", x, 1, 8, 1);
        lampDue("does not see", x, 2, 8, 0);
        lampDue("has coughed", x, 0, 5, NONE);
        lampDue("waits no more", x, 1, 5, NONE);
        lampDue("waits", x, 2, 5, 2);
        x.ticks(1);
        lampDue("was lit", x, 0, 8, 1);
        lampDue("lit anew", x, 0, 4, 8);
        x.ticks(1);
        lampDue("hears lamp 2", x, 0, 5, 2);
        lampDue("rank", x, 0, 6, 2);
        CoughLamps y = lampsAt(10, 20);
        y.set(CoughLamps.EYES, 0);
        y.walker(11, 1);
        y.walker(20, 1);
        y.mend(1, 1);
        y.ticks(1);
        countDue("too far, and blind", y, 10, 0);
        y.mend(1, 0);
        y.ticks(1);
        countDue("on its step", y, 10, 1);
        seesAfterItsTurn();
        homeWalkersAreNotSeen();
    }

    /** A lamp that is dim, coughs in its turn and sees a walker in the same tick coughs twice. */
    private static void seesAfterItsTurn() {
        CoughLamps x = lampsAt(10, 20);
        x.set(CoughLamps.AWAKE, 1);
        x.cough(0);
        x.ticks(1);
        lampDue("dim and waits", x, 1, 2, CoughLamps.DIM_LIT);
        lampDue("dim and waits", x, 1, 5, 1);
        x.walker(23, 1);
        x.ticks(1);
        lampDue("coughs twice", x, 1, 8, 2);
        lampDue("lit", x, 1, 2, CoughLamps.LIT);
        lampDue("heard twice", x, 0, 9, 2);
        lampDue("waits with the first one's rank", x, 0, 6, 2);
    }

    private static void homeWalkersAreNotSeen() {
        CoughLamps x = lampsAt(10);
        x.walker(10, 1);
        x.goal(0, 10, 0);
        x.ticks(1);
        countDue("home at once", x, 10, 0);
        countDue("home at once", x, 8, 0);
        lampDue("home at once", x, 0, 2, CoughLamps.ASLEEP);
    }

    private static void promise9LightAndBlame() {
        CoughLamps x = lampsAt(50, 40, 60);
        x.house(51);
        x.house(52);
        x.walker(45, 1);
        x.walker(99, 1);
        x.walker(0, 1);
        x.set(CoughLamps.EYES, 4);
        x.mend(1, 2);
        x.ticks(1);
        lampDue("of two the lowest", x, 0, 10, 1);
        lampDue("a broken one, too", x, 1, 10, 1);
        lampDue("the nearest", x, 2, 10, 1);
        walkerDue("dark", x, 0, 6, 1);
        countDue("dark", x, 8, 3);
        x.set(CoughLamps.EYES, 5);
        x.ticks(1);
        walkerDue("lit at the end of the shine", x, 0, 6, 1);
        walkerDue("dark", x, 1, 6, 2);
        countDue("light", x, 7, 8);
        houseDue("disturbed", x, 0, 2, 1);
        houseDue("too far to be disturbed", x, 1, 2, 0);
        CoughLamps y = new CoughLamps();
        y.walker(0, 1);
        y.ticks(3);
        countDue("dark without a lamp", y, 8, 3);
        y.lamp(99, 1);
        y.ticks(2);
        lampDue("the one that there is", y, 0, 10, 2);
    }

    /** All that can be in a street, all of it counted and nothing beyond it. */
    private static void promise9FullStreet() {
        CoughLamps x = new CoughLamps();
        for (int i = 0; i < 16; i++) {
            x.lamp(6 * i, 3);
        }
        for (int i = 0; i < 8; i++) {
            x.house(12 * i + 1);
            x.walker(12 * i, 1);
            x.goal(i, 12 * i, 5);
        }
        Check.due("hearers(15)", x.hearers(15), 1 << 14 | 1 << 13);
        Check.due("brings(1, 0)", x.brings(1, 0), 0);
        Check.due("brings(1, 1)", x.brings(1, 1), 64);
        Check.due("brings(1, 2)", x.brings(1, 2), 8);
        Check.due("brings(1, 3)", x.brings(1, 3), 8);
        Check.due("bestReach(1)", x.bestReach(1), 1);
        Check.due("needless()", x.needless(), 0xAAAA);
        Check.due("homeIn(7)", x.homeIn(7), 6);
        x.save(1);
        x.ticks(1);
        countDue("lit", x, 5, 16);
        Check.due("lightAt(93)", x.lightAt(93), 1 << 15);
        x.ticks(3);
        houseDue("the last house", x, 7, 2, 4);
        x.restore(1);
        countDue("restored", x, 5, 0);
        x.undo();
        countDue("undone", x, 9, 32);
        Check.due("cough(15)", x.cough(15), 2);
    }

    // ---- what there is

    private static void promise10OfLamp() {
        CoughLamps x = lampsAt(10, 20);
        Check.due("ofLamp(2, 99)", x.ofLamp(2, 99), NO_SUCH);
        Check.due("ofLamp(0, 11)", x.ofLamp(0, 11), BAD_VALUE);
        for (int wrong : WRONG) {
            Check.due("wrong lamp", x.ofLamp(wrong, 0), NO_SUCH);
            Check.due("wrong what", x.ofLamp(0, wrong), BAD_VALUE);
        }
        int[] fresh = {10, 5, 0, 0, 0, NONE, NONE, 0, 0, 0, 0};
        for (int what = 0; what < fresh.length; what++) {
            lampDue("fresh", x, 0, what, fresh[what]);
        }
        x.mend(0, 1);
        x.walker(7, 1);
        x.ticks(1);
        x.mend(0, 0);
        x.ticks(3);
        int[] later = {10, 5, 2, 0, 8, 2, 2, 12, 1, 1, 1};
        for (int what = 0; what < later.length; what++) {
            lampDue("later", x, 0, what, later[what]);
        }
        countDue("looking is no change", x, 18, 6);
    }

    private static void promise11OfWalker() {
        CoughLamps x = lampsAt(10);
        x.walker(0, 2);
        Check.due("ofWalker(1, 99)", x.ofWalker(1, 99), NO_SUCH);
        Check.due("ofWalker(0, 9)", x.ofWalker(0, 9), BAD_VALUE);
        for (int wrong : WRONG) {
            Check.due("wrong walker", x.ofWalker(wrong, 0), NO_SUCH);
            Check.due("wrong what", x.ofWalker(0, wrong), BAD_VALUE);
        }
        x.goal(0, 9, 3);
        x.goal(0, 8, 0);
        x.ticks(3);
        int[] onTheWay = {6, 2, 0, 9, 2, NONE, 3, 0, 6};
        for (int what = 0; what < onTheWay.length; what++) {
            walkerDue("on the way", x, 0, what, onTheWay[what]);
        }
        x.ticks(3);
        int[] resting = {9, 2, 0, 9, 2, 1, 3, 1, 9};
        for (int what = 0; what < resting.length; what++) {
            walkerDue("resting", x, 0, what, resting[what]);
        }
        x.ticks(3);
        int[] home = {8, 2, 1, NONE, 0, NONE, 3, 0, 10};
        for (int what = 0; what < home.length; what++) {
            walkerDue("home", x, 0, what, home[what]);
        }
    }

    private static void promise12OfHouse() {
        CoughLamps x = new CoughLamps();
        x.lamp(50, 11);
        x.lamp(60, 1);
        x.house(53);
        x.house(46);
        Check.due("ofHouse(2, 99)", x.ofHouse(2, 99), NO_SUCH);
        Check.due("ofHouse(0, 3)", x.ofHouse(0, 3), BAD_VALUE);
        for (int wrong : WRONG) {
            Check.due("wrong house", x.ofHouse(wrong, 0), NO_SUCH);
            Check.due("wrong what", x.ofHouse(0, wrong), BAD_VALUE);
        }
        houseDue("step", x, 1, 0, 46);
        houseDue("asleep", x, 0, 1, 0);
        x.set(CoughLamps.AWAKE, 3);
        x.set(CoughLamps.CHAIN, 0);
        x.cough(1);
        houseDue("disturbed now", x, 0, 1, 1);
        houseDue("no tick so far", x, 0, 2, 0);
        houseDue("too far", x, 1, 1, 0);
        x.ticks(2);
        houseDue("disturbed ticks", x, 0, 2, 2);
        x.ticks(1);
        houseDue("dim light disturbs nobody", x, 0, 1, 0);
        houseDue("disturbed ticks", x, 0, 2, 2);
        houseDue("too far", x, 1, 2, 0);
    }

    private static void promise13LightAt() {
        CoughLamps x = new CoughLamps();
        x.lamp(50, 7);
        x.lamp(60, 30);
        x.lamp(40, 7);
        Check.due("asleep", x.lightAt(50), 0);
        x.set(CoughLamps.REACH, 20);
        x.cough(1);
        Check.due("both", x.lightAt(45), 5);
        Check.due("who coughed is not lit", x.lightAt(60), 0);
        Check.due("at its shine", x.lightAt(57), 1);
        Check.due("beyond it", x.lightAt(58), 0);
        Check.due("below", x.lightAt(42), 4);
        x.set(CoughLamps.CHAIN, 0);
        x.mend(1, 2);
        x.mend(2, 2);
        x.ticks(8);
        lampDue("dim", x, 0, 2, CoughLamps.DIM_LIT);
        Check.due("half of its shine", x.lightAt(53), 1);
        Check.due("beyond it", x.lightAt(54), 0);
        Check.due("half of its shine", x.lightAt(47), 1);
        Check.due("lightAt(-1)", x.lightAt(-1), NO_SUCH);
        Check.due("lightAt(100)", x.lightAt(100), NO_SUCH);
        for (int wrong : WRONG) {
            Check.due("wrong step", x.lightAt(wrong), NO_SUCH);
        }
        Check.due("lightAt(0)", x.lightAt(0), 0);
        Check.due("lightAt(99)", x.lightAt(99), 0);
    }

    private static void promise14Hearers() {
        CoughLamps x = lampsAt(30, 44, 45, 16, 31);
        Check.due("hearers(0)", x.hearers(0), 2 | 8 | 16);
        x.set(CoughLamps.REACH, 15);
        Check.due("farther", x.hearers(0), 2 | 4 | 8 | 16);
        x.mend(1, 1);
        x.mend(4, 2);
        Check.due("blind hears, broken does not", x.hearers(0), 2 | 4 | 8);
        Check.due("blind is heard", x.hearers(1), 1 | 4);
        Check.due("broken is not heard", x.hearers(4), 0);
        Check.due("hearers(5)", x.hearers(5), NO_SUCH);
        for (int wrong : WRONG) {
            Check.due("wrong lamp", x.hearers(wrong), NO_SUCH);
        }
        lampDue("nobody heard", x, 1, 9, 0);
    }

    private static void promise15Count() {
        CoughLamps x = lampsAt(10, 20, 30);
        Check.due("count(19)", x.count(19), BAD_VALUE);
        for (int wrong : WRONG) {
            Check.due("wrong what", x.count(wrong), BAD_VALUE);
        }
        x.house(20);
        x.house(99);
        x.walker(7, 1);
        x.walker(20, 1);
        x.goal(1, 20, 0);
        x.walker(99, 2);
        x.ticks(11);
        putText(x, "c0;");
        // Lamp 0 coughs in ticks 0 and 4, lamp 1 in tick 2, lamp 2 in tick 4; they are lit from tick 0, 0 and 2 on.
        int[] counts = {11, 3, 2, 3, 2, 2, 1, 121, 11, 11, 4, 3, 14, 8, 6, 2, 2, 3, 6};
        for (int what = 0; what < counts.length; what++) {
            countDue("later", x, what, counts[what]);
        }
        x.set(0, 1);
        x.set(1, 2);
        x.set(2, 33);
        x.set(3, 44);
        x.set(4, 5);
        x.set(5, 6);
        int[] settings = {1, 2, 33, 44, 5, 6};
        for (int i = 0; i < 6; i++) {
            countDue("settings", x, 11 + i, settings[i]);
        }
    }

    private static int litNow(CoughLamps x, int does) {
        int set = 0;
        for (int i = 0; i < x.count(1); i++) {
            if (x.ofLamp(i, 2) == does) {
                set |= 1 << i;
            }
        }
        return set;
    }

    // ---- what if

    private static void promise16HomeIn() {
        CoughLamps x = new CoughLamps();
        Check.due("no walker", x.homeIn(0), NO_SUCH);
        x.walker(0, 1);
        for (int wrong : WRONG) {
            Check.due("wrong walker", x.homeIn(wrong), NO_SUCH);
        }
        Check.due("no goal", x.homeIn(0), NONE);
        x.goal(0, 0, 0);
        Check.due("there", x.homeIn(0), 1);
        x.goal(0, 3, 2);
        Check.due("and on", x.homeIn(0), 6);
        walkerDue("nothing has changed", x, 0, 0, 0);
        countDue("nothing has changed", x, 18, 3);
        x.ticks(5);
        walkerDue("rests", x, 0, 5, 1);
        Check.due("rests", x.homeIn(0), 1);
        x.ticks(1);
        Check.due("home", x.homeIn(0), 0);
        homeInAtItsBound();
    }

    private static void homeInAtItsBound() {
        CoughLamps x = new CoughLamps();
        x.walker(0, 1);
        x.goal(0, 99, 1);
        x.goal(0, 0, 1);
        x.goal(0, 99, 0);
        x.goal(0, 0, 0);
        x.goal(0, 99, 2);
        Check.due("499 ticks", x.homeIn(0), 499);
        x.goal(0, 99, 0);
        Check.due("500 ticks", x.homeIn(0), 500);
        x.undo();
        x.goal(0, 98, 1);
        Check.due("501 ticks", x.homeIn(0), NONE);
        x.ticks(1);
        Check.due("500 ticks", x.homeIn(0), 500);
    }

    private static void promise17Brings() {
        CoughLamps x = lampsAt(10, 20);
        x.house(21);
        x.walker(0, 2);
        x.goal(0, 30, 0);
        Check.due("brings(0, 0)", x.brings(0, 0), BAD_VALUE);
        Check.due("brings(201, 0)", x.brings(201, 0), BAD_VALUE);
        Check.due("brings(1, 4)", x.brings(1, 4), BAD_VALUE);
        for (int wrong : WRONG) {
            Check.due("wrong ticks", x.brings(wrong, 0), BAD_VALUE);
            Check.due("wrong what", x.brings(1, wrong), BAD_VALUE);
        }
        x.ticks(6);
        int[] before = {x.count(8), x.count(7), x.count(9), x.count(10)};
        int[] brought = {x.brings(20, 0), x.brings(20, 1), x.brings(20, 2), x.brings(20, 3)};
        countDue("nothing has changed", x, 0, 6);
        countDue("nothing has changed", x, 18, 6);
        x.ticks(20);
        Check.due("dark ticks", brought[0], x.count(8) - before[0]);
        Check.due("units of light", brought[1], x.count(7) - before[1]);
        Check.due("disturbed ticks", brought[2], x.count(9) - before[2]);
        Check.due("coughs", brought[3], x.count(10) - before[3]);
        Check.holds("something was brought", brought[0] > 0 && brought[1] > 0 && brought[2] > 0 && brought[3] > 0);
        Check.due("brings(200, 3)", x.brings(200, 3), 0);
    }

    private static void promise18BestReach() {
        CoughLamps x = new CoughLamps();
        Check.due("bestReach(0)", x.bestReach(0), BAD_VALUE);
        Check.due("bestReach(201)", x.bestReach(201), BAD_VALUE);
        for (int wrong : WRONG) {
            Check.due("wrong ticks", x.bestReach(wrong), BAD_VALUE);
        }
        Check.due("no lamps", x.bestReach(200), 1);
        x.lamp(10, 9);
        x.lamp(27, 3);
        x.lamp(80, 9);
        x.set(CoughLamps.EYES, 3);
        x.mend(1, 1);
        x.walker(7, 4);
        x.goal(0, 40, 0);
        Check.due("lamp 1 has to hear lamp 0", x.bestReach(10), 17);
        countDue("nothing has changed", x, 12, 14);
        countDue("nothing has changed", x, 18, 6);
        int best = bestByTrying(x, 10);
        Check.due("tried", x.bestReach(10), best);
        CoughLamps y = lampsAt(0, 60);
        y.mend(1, 1);
        y.walker(2, 1);
        y.walker(60, 1);
        Check.due("the farthest", y.bestReach(3), 60);
        CoughLamps z = lampsAt(0, 61);
        z.mend(1, 1);
        z.walker(2, 1);
        z.walker(61, 1);
        Check.due("beyond the farthest", z.bestReach(3), 1);
        bestReachOfSeveral();
    }

    private static void bestReachOfSeveral() {
        CoughLamps x = lampsAt(0, 10, 30);
        x.mend(1, 1);
        x.walker(2, 1);
        Check.due("a farther one would take more light", x.bestReach(9), 1);
        x.mend(1, 2);
        x.mend(2, 2);
        Check.due("all of them take as much light", x.bestReach(9), 1);
        CoughLamps y = lampsAt(0, 8, 20);
        y.mend(1, 1);
        y.mend(2, 1);
        y.walker(2, 1);
        y.walker(9, 1);
        Check.due("the fewest dark ticks, then the least light", y.bestReach(3), 8);
        y.walker(21, 1);
        Check.due("the least that reaches both in time", y.bestReach(1), 20);
        Check.due("the least light with as few dark ticks", y.bestReach(200), bestByTrying(y, 200));
        fartherWithLessLight();
    }

    /**
     * Reach 6 lets lamp 4 light the walker at 66. Reach 16 wakes lamp 1 ahead of the walker who comes there: it
     * does not cough then, and lamp 2 stays asleep.
     */
    private static void fartherWithLessLight() {
        CoughLamps x = new CoughLamps();
        int[] steps = {4, 20, 25, 60, 66};
        for (int step : steps) {
            x.lamp(step, 1);
        }
        x.set(CoughLamps.EYES, 0);
        x.set(CoughLamps.CHAIN, 0);
        x.mend(4, 1);
        x.walker(0, 4);
        x.goal(0, 20, 20);
        x.walker(60, 1);
        x.walker(66, 1);
        Check.due("farther with less light", x.bestReach(12), 16);
        Check.due("tried", x.bestReach(12), bestByTrying(x, 12));
    }

    private static int bestByTrying(CoughLamps x, int ticks) {
        int best = 0;
        long bestCost = Long.MAX_VALUE;
        for (int reach = 1; reach <= 60; reach++) {
            x.set(CoughLamps.REACH, reach);
            long cost = 1_000_000L * x.brings(ticks, 0) + x.brings(ticks, 1);
            x.undo();
            if (cost < bestCost) {
                bestCost = cost;
                best = reach;
            }
        }
        return best;
    }

    private static void promise19Needless() {
        CoughLamps x = lampsAt(10, 14, 60, 90);
        Check.due("nobody is there", x.needless(), 15);
        x.walker(12, 1);
        x.walker(60, 1);
        Check.due("two for one walker, and a broken one for nobody", x.needless(), 1 | 2 | 8);
        x.mend(1, 2);
        Check.due("one is broken already", x.needless(), 2 | 8);
        lampDue("nothing has changed", x, 0, 3, 0);
        countDue("nothing has changed", x, 0, 0);
        CoughLamps y = lampsAt(10, 20);
        y.walker(0, 1);
        y.goal(0, 99, 0);
        y.ticks(5);
        Check.due("tried", y.needless(), needlessByTrying(y));
        Check.due("seen in tick 100", comesInTick(100).needless(), 0);
        Check.due("seen in tick 101", comesInTick(101).needless(), 1);
    }

    /** A street with a walker whom its lamp does not see ahead of the given tick, 100 or 101. */
    private static CoughLamps comesInTick(int tick) {
        CoughLamps x = lampsAt(30);
        x.walker(0, 1);
        x.goal(0, 0, 20);
        x.goal(0, 0, 20);
        x.goal(0, 0, 20);
        x.goal(0, 0, 9 + tick - 100);
        x.goal(0, 28, 0);
        return x;
    }

    private static int needlessByTrying(CoughLamps x) {
        int asItIs = x.brings(100, 0);
        int set = 0;
        for (int lamp = 0; lamp < x.count(1); lamp++) {
            x.mend(lamp, 2);
            if (x.brings(100, 0) <= asItIs) {
                set |= 1 << lamp;
            }
            x.undo();
        }
        return set;
    }

    // ---- texts

    private static void promise20Put() {
        CoughLamps x = new CoughLamps();
        Check.due("put(0)", x.put(0), BAD_VALUE);
        Check.due("a space", x.put(32), BAD_VALUE);
        Check.due("sign 127", x.put(127), BAD_VALUE);
        Check.due("sign 255", x.put(255), BAD_VALUE);
        Check.due("put(-1)", x.put(-1), BAD_VALUE);
        Check.due("put(MIN)", x.put(Long.MIN_VALUE), BAD_VALUE);
        Check.due("put(MAX)", x.put(Long.MAX_VALUE), BAD_VALUE);
        Check.due("nothing last", x.put('a' << 8), BAD_VALUE);
        Check.due("a hole", x.put('a' << 16 | 'b'), BAD_VALUE);
        Check.due("a bit at the top", x.put(1L << 63 | 'b'), BAD_VALUE);
        Check.due("a bad sign first", x.put(32 << 8 | 'b'), BAD_VALUE);
        Check.due("a bad sign first of eight", x.put(32L << 56 | pack("1234567")), BAD_VALUE);
        Check.due("sign 33", x.put(33), 1);
        Check.due("sign 126", x.put(126), 2);
        Check.due("eight signs", x.put(pack("12345678")), 10);
        countDue("length", x, 17, 10);
        for (int i = 0; i < 8; i++) {
            x.put(pack("12345678"));
        }
        Check.due("77 signs", x.put(pack("123")), 77);
        Check.due("bad ahead of too many", x.put(pack("123\0")), BAD_VALUE);
        Check.due("81 signs", x.put(pack("1234")), TOO_MANY);
        countDue("length", x, 17, 77);
        Check.due("80 signs", x.put(pack("123")), 80);
        Check.due("81 signs", x.put('1'), TOO_MANY);
        countDue("no change", x, 18, 0);
        CoughLamps y = lampsAt(1);
        y.put(pack("m0"));
        y.put(pack("=2"));
        Check.due("in their order", y.carryOut(), 1);
        lampDue("in their order", y, 0, 3, 2);
    }

    private static void promise21Wipe() {
        CoughLamps x = new CoughLamps();
        Check.due("nothing", x.wipe(), 0);
        putText(x, "t1;t2;t3;");
        Check.due("wipe()", x.wipe(), 9);
        countDue("length", x, 17, 0);
        Check.due("again", x.wipe(), 0);
        Check.due("on", x.put('t'), 1);
        countDue("no change", x, 18, 0);
    }

    private static void promise22Fault() {
        String[] good = {"w0/1", "w99/4>3", "w99/4>3*20>4>5*1", "w999/999>999*999", "c0", "c999", "m0=0", "m10=1", "m999=2",
            "t0", "t200", "t1;t1", "c1;w1/1>1;m1=1;t1;c10"};
        for (String text : good) {
            Check.due("fault of " + text, faultOf(text), NONE);
        }
        String[] shorter = {"", "w", "w1", "w1/", "w1/1>", "w1/1>1*", "w1/1>1>", "c", "m", "m1", "m1=", "t", "t1;", "t1;c"};
        for (String text : shorter) {
            Check.due("fault of " + text, faultOf(text), text.length());
        }
        String[] bad = {"x", ";", "1", "W1/1", "w/", "w1;", "w1>", "w1/1*", "w1/1/", "w1/1=", "w1/1>1*1*", "w1/1>>", "w1/1>*",
            "w1/1;;", "c01", "c1000", "c1/", "c1>", "c-", "c1x", "m1/", "m=", "m1=3", "m1=00", "m1=12", "m1;", "t007", "t1000",
            "t00", "t1t", "t1;;", "t1;x", "t9999", "w00", "w1/00", "w1/1000", "w1/1>00", "w1/1>1000", "w1/1>1*00", "w1/1>1*1000",
            "m00", "m1000", "t1:", "t1/", "tt", "t1;1", "m1=/", "m1=;", "m1=:"};
        int[] at = {0, 0, 0, 0, 1, 2, 2, 4, 4, 4, 8, 5, 5, 5, 2, 4, 2, 2, 1, 2, 2, 1, 3, 4, 4, 2, 2, 4, 2, 2, 3, 3, 4, 2, 4, 6, 6, 8,
            8, 10, 2, 4, 2, 2, 1, 3, 3, 3, 3};
        Check.due("texts", bad.length, at.length);
        for (int i = 0; i < bad.length; i++) {
            Check.due("fault of " + bad[i], faultOf(bad[i]), at[i]);
            Check.due("fault of " + bad[i] + ";c", faultOf(bad[i] + ";c"), at[i]);
        }
        String full = "t1;t1;t1;t1;t1;t1;t1;t1;t1;t1;t1;t1;t1;t1;t1;t1;t1;t1;t1;t1;t1;t1;t1;t1;t1;t1;t1";
        Check.due("80 signs", faultOf(full), NONE);
        Check.due("80 signs and a fault", faultOf(full.substring(1) + "t"), 0);
        Check.due("80 signs and too short", faultOf(full.substring(0, 75) + "w1/1>"), 80);
        CoughLamps x = new CoughLamps();
        putText(x, "t1");
        Check.due("fault()", x.fault(), NONE);
        putText(x, ";x");
        Check.due("fault()", x.fault(), 3);
        Check.due("fault() again", x.fault(), 3);
        countDue("the pad stays", x, 17, 4);
        countDue("no change", x, 18, 0);
    }

    private static void promise23CarryOut() {
        CoughLamps x = lampsAt(10, 20);
        Check.due("an empty pad", x.carryOut(), BAD_TEXT);
        Check.due("a fault", carried(x, "t1;t2;t"), BAD_TEXT);
        countDue("the pad stays", x, 17, 7);
        countDue("nothing is done", x, 0, 0);
        countDue("nothing is recorded", x, 18, 2);
        Check.due("all orders", carried(x, "w7/3>13*2>30;c0;m1=1;t3"), 4);
        countDue("the pad is empty", x, 17, 0);
        countDue("one change", x, 18, 3);
        countDue("tick", x, 0, 3);
        walkerDue("carried", x, 0, 0, 13);
        walkerDue("carried", x, 0, 1, 3);
        walkerDue("carried", x, 0, 4, 2);
        walkerDue("carried", x, 0, 5, 1);
        lampDue("carried", x, 1, 3, 1);
        lampDue("carried", x, 0, 8, 2);
        carryOutStops();
    }

    private static void carryOutStops() {
        CoughLamps x = lampsAt(10, 20);
        Check.due("up to the error", carried(x, "t1;t201;t5"), 1);
        countDue("up to the error", x, 0, 1);
        countDue("up to the error", x, 17, 0);
        countDue("up to the error", x, 18, 3);
        Check.due("none", carried(x, "c2;t5"), 0);
        countDue("none, and a change yet", x, 18, 4);
        Check.due("none", carried(x, "t0"), 0);
        Check.due("none", carried(x, "m2=1;t1"), 0);
        Check.due("none", carried(x, "w0/5>1;t1"), 0);
        countDue("no walker", x, 3, 0);
        Check.due("none", carried(x, "w100/1"), 0);
        Check.due("a goal fails", carried(x, "w1/1>2>100>3;t1"), 0);
        countDue("the walker stays", x, 3, 1);
        walkerDue("with a goal", x, 0, 4, 1);
        Check.due("a pause fails", carried(x, "t1;w1/1>2*3>2*21"), 1);
        walkerDue("with a goal", x, 1, 4, 1);
        walkerDue("without a pause", x, 0, 2, 1);
        Check.due("six goals", carried(x, "w1/1>1>1>1>1>1>1;t1"), 2);
        Check.due("seven goals", carried(x, "w1/1>1>1>1>1>1>1>1;t1"), 0);
        walkerDue("six stay", x, 3, 4, 6);
        x.undo();
        countDue("all of it is undone", x, 3, 3);
        Check.due("many goals", carried(x, "w1/1>1>1>1>1>1>1>1>1>1>1>1>1>1>1>1>1>1>1>1>1>1>1>1>1>1>1>1>1>1>1>1>1>1>1>1>1>1>1"), 0);
        x.mend(0, 2);
        Check.due("a broken lamp", carried(x, "c1;c0;c1"), 1);
        String many = "t1;t1;t1;t1;t1;t1;t1;t1;t1;t1;t1;t1;t1;t1;t1;t1;t1;t1;t1;t1;t1;t1;t1;t1;t1;t1;t1";
        Check.due("27 orders", carried(x, many), 27);
        Check.due("walkers", carried(x, "w1/1;w1/1;w1/1;w1/1;w1/1;w1/1;w1/1;w1/1"), 4);
    }

    // ---- undo, saving

    private static void promise24Undo() {
        CoughLamps x = new CoughLamps();
        Check.due("nothing", x.undo(), NOT_POSSIBLE);
        for (int i = 0; i < 9; i++) {
            x.ticks(1);
        }
        countDue("at most six", x, 18, 6);
        for (int left = 5; left >= 0; left--) {
            Check.due("undo()", x.undo(), left);
            countDue("undone", x, 0, 3 + left);
        }
        Check.due("no more", x.undo(), NOT_POSSIBLE);
        countDue("no more", x, 0, 3);
        x.ticks(5);
        Check.due("anew", x.undo(), 0);
        countDue("anew", x, 0, 3);
        undoBringsAllBack();
        undoLeavesPadAndSlots();
    }

    private static void undoBringsAllBack() {
        CoughLamps x = lampsAt(10, 20);
        x.house(21);
        x.walker(7, 2);
        x.goal(0, 20, 3);
        x.ticks(4);
        int[] before = look(x);
        x.ticks(9);
        x.undo();
        same("ticks undone", before, look(x));
        x.lamp(40, 9);
        x.cough(1);
        x.undo();
        x.undo();
        same("lamp and cough undone", before, look(x));
        Check.due("the number is free again", x.lamp(50, 2), 2);
        lampDue("a lamp as new", x, 2, 8, 0);
        lampDue("a lamp as new", x, 2, 9, 0);
        x.undo();
        x.goal(0, 1, 1);
        x.undo();
        x.mend(0, 2);
        x.undo();
        x.set(2, 1);
        x.undo();
        same("goal, mend and set undone", before, look(x));
        CoughLamps y = lampsAt(10, 20);
        y.set(CoughLamps.CHAIN, 6);
        y.cough(0);
        lampDue("rank", y, 1, 6, 1);
        y.ticks(4);
        lampDue("rank", y, 1, 6, 3);
        y.undo();
        lampDue("rank", y, 1, 6, 1);
        eachChangeIsUndone();
        newOnesAreAsNew();
    }

    private static CoughLamps busyStreet() {
        CoughLamps x = lampsAt(10, 20, 34);
        x.house(21);
        x.walker(7, 2);
        x.goal(0, 20, 3);
        x.goal(0, 25, 2);
        x.walker(90, 1);
        x.ticks(5);
        x.save(0);
        return x;
    }

    private static void eachChangeIsUndone() {
        for (int change = 0; change < 10; change++) {
            CoughLamps x = busyStreet();
            x.undo();
            x.ticks(3);
            putText(x, "w0/1;t9;m0=2");
            int[] before = look(x);
            int answer = change(x, change);
            Check.holds("change " + change + " is done", answer >= 0);
            boolean different = false;
            int[] after = look(x);
            for (int i = 0; i < before.length; i++) {
                different |= after.length != before.length || before[i] != after[i];
            }
            Check.holds("change " + change + " changes something", different);
            Check.due("undo of change " + change, x.undo(), 5);
            same("undo of change " + change, before, look(x));
        }
    }

    private static int change(CoughLamps x, int change) {
        switch (change) {
            case 0: return x.set(2, 9);
            case 1: return x.lamp(50, 5);
            case 2: return x.house(50);
            case 3: return x.walker(50, 1);
            case 4: return x.goal(1, 50, 1);
            case 5: return x.mend(1, 2);
            case 6: return x.cough(0);
            case 7: return x.ticks(20);
            case 8: return x.carryOut();
            default: return x.restore(0);
        }
    }

    /** What comes in the place of what is no more has nothing of it. */
    private static void newOnesAreAsNew() {
        CoughLamps x = lampsAt(10);
        x.save(0);
        x.house(14);
        x.lamp(14, 5);
        x.walker(0, 4);
        x.goal(0, 14, 5);
        x.goal(0, 14, 0);
        x.walker(14, 1);
        x.goal(1, 14, 9);
        x.goal(1, 14, 9);
        x.mend(1, 1);
        x.ticks(5);
        x.cough(0);
        x.restore(0);
        x.house(15);
        x.lamp(15, 6);
        x.walker(0, 2);
        x.walker(0, 2);
        newOnesDue("rested, lit and waited", x);
        x.mend(1, 1);
        x.goal(0, 3, 0);
        x.ticks(30);
        x.restore(0);
        x.house(15);
        x.lamp(15, 6);
        x.walker(0, 2);
        x.walker(0, 2);
        newOnesDue("was home", x);
    }

    private static void newOnesDue(String when, CoughLamps x) {
        int[] lamp = {15, 6, 0, 0, 0, NONE, NONE, 0, 0, 0, 0};
        for (int what = 0; what < lamp.length; what++) {
            lampDue(when, x, 1, what, lamp[what]);
        }
        int[] walker = {0, 2, 0, NONE, 0, NONE, 0, 0, 0};
        for (int i = 0; i < 2; i++) {
            for (int what = 0; what < walker.length; what++) {
                walkerDue(when, x, i, what, walker[what]);
            }
        }
        Check.due(when, x.ofHouse(0, 2), 0);
        Check.due(when, x.ofHouse(0, 0), 15);
    }

    private static void undoLeavesPadAndSlots() {
        CoughLamps x = new CoughLamps();
        x.ticks(1);
        x.save(0);
        x.ticks(1);
        putText(x, "t1");
        x.undo();
        countDue("the pad stays", x, 17, 2);
        x.undo();
        countDue("undone", x, 0, 0);
        Check.due("the slot stays", x.restore(0), 1);
        Check.due("undo of restore", x.undo(), 0);
        countDue("undone", x, 0, 0);
    }

    private static void promise24WhatIsAChange() {
        CoughLamps x = new CoughLamps();
        x.set(0, 3);
        countDue("set", x, 18, 1);
        x.lamp(1, 1);
        countDue("lamp", x, 18, 2);
        x.house(1);
        countDue("house", x, 18, 3);
        x.walker(1, 1);
        countDue("walker", x, 18, 4);
        x.goal(0, 1, 1);
        countDue("goal", x, 18, 5);
        x.mend(0, 0);
        countDue("mend", x, 18, 6);
        x.undo();
        x.undo();
        x.undo();
        x.cough(0);
        countDue("cough", x, 18, 4);
        x.ticks(1);
        countDue("ticks", x, 18, 5);
        x.undo();
        x.undo();
        x.undo();
        carried(x, "t1;t1");
        countDue("carryOut", x, 18, 3);
        x.save(1);
        countDue("save", x, 18, 3);
        x.restore(1);
        countDue("restore", x, 18, 4);
        x.set(0, 99);
        x.lamp(1, 1);
        x.house(100);
        x.walker(1, 5);
        x.goal(5, 1, 1);
        x.mend(0, 3);
        x.cough(9);
        x.ticks(0);
        x.carryOut();
        x.restore(0);
        x.restore(2);
        x.homeIn(0);
        x.brings(9, 0);
        x.bestReach(9);
        x.needless();
        x.put('t');
        x.fault();
        x.wipe();
        x.save(0);
        countDue("errors and looks", x, 18, 4);
    }

    private static void promise25Save() {
        CoughLamps x = new CoughLamps();
        x.ticks(7);
        Check.due("save(2)", x.save(2), BAD_VALUE);
        for (int wrong : WRONG) {
            Check.due("wrong slot", x.save(wrong), BAD_VALUE);
        }
        Check.due("save(0)", x.save(0), 7);
        x.ticks(1);
        Check.due("save(1)", x.save(1), 8);
        x.ticks(1);
        Check.due("restore(0)", x.restore(0), 7);
        Check.due("restore(1)", x.restore(1), 8);
        Check.due("save(0) again", x.save(0), 8);
        x.ticks(1);
        Check.due("overwritten", x.restore(0), 8);
    }

    private static void promise26Restore() {
        CoughLamps x = lampsAt(10, 20);
        Check.due("restore(-1)", x.restore(-1), BAD_VALUE);
        Check.due("restore(2)", x.restore(2), BAD_VALUE);
        for (int wrong : WRONG) {
            Check.due("wrong slot", x.restore(wrong), BAD_VALUE);
        }
        Check.due("nothing saved", x.restore(0), NOT_POSSIBLE);
        x.house(21);
        x.walker(7, 2);
        x.goal(0, 20, 3);
        x.ticks(4);
        x.set(5, 3);
        x.save(1);
        int[] saved = look(x);
        Check.due("nothing saved there", x.restore(0), NOT_POSSIBLE);
        x.ticks(9);
        x.walker(3, 3);
        x.set(5, 1);
        putText(x, "t1");
        int[] before = look(x);
        Check.due("restore(1)", x.restore(1), 4);
        same("restored", saved, look(x));
        countDue("the pad stays", x, 17, 2);
        x.ticks(3);
        Check.due("the slot keeps it", x.restore(1), 4);
        same("restored", saved, look(x));
        x.undo();
        x.undo();
        x.undo();
        same("the history stays", before, look(x));
    }
}
