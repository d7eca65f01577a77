/** What the document says about what there is: promises 10 to 15. */
final class SentencesOfLooks extends Sentences {
    private static final int ALL_LAMPS = 65535;

    private SentencesOfLooks() {
    }

    static void all() {
        lampsWhereAndHow();
        lampsTheirTicks();
        lampsSoFar();
        lampsThatAreNot();
        walkersOnTheirWay();
        walkersSoFar();
        walkersWhoAreNot();
        houses();
        lightAt();
        hearers();
        countsOfWhatThereIs();
        countsSoFar();
        countsOfTheRest();
    }

    /** Lamp 1 hears lamp 0, and no lamp coughs in its turn. */
    private static CoughLamps twoLamps(int awake, int dim) {
        CoughLamps x = lampsAt(10, 20);
        x.set(CoughLamps.CHAIN, 0);
        x.set(CoughLamps.AWAKE, awake);
        x.set(CoughLamps.DIM, dim);
        return x;
    }

    /** 16 lamps side by side that are all LIT, at the steps 42 to 57. */
    private static CoughLamps sixteenLit() {
        CoughLamps x = new CoughLamps();
        for (int i = 0; i < 16; i++) {
            due("lamp " + i, x.lamp(42 + i, 30), i);
        }
        x.set(CoughLamps.REACH, 60);
        due("cough(0)", x.cough(0), 15);
        due("cough(15)", x.cough(15), 15);
        return x;
    }

    // ---- lamps

    private static void lampsWhereAndHow() {
        holds(10, "Returns something about a lamp.", () -> {
            for (int i = 0; i <= 10; i++) {
                int what = i;
                changesNothing("ofLamp(1, " + what + ")", Sentences::busyStreet, x -> x.ofLamp(1, what));
            }
        });
        holds(10, "- `what`: 0 its step,", () -> {
            CoughLamps x = lampsAt(0, 99, 50);
            lampDue("the first step", x, 0, 0, 0);
            lampDue("the last step", x, 1, 0, 99);
            lampDue("a step between", x, 2, 0, 50);
            lampDue("lamp 15 of 16", fullStreet(), 15, 0, 90);
        });
        holds(10, "1 its shine,", () -> {
            CoughLamps x = new CoughLamps();
            x.lamp(0, 30);
            x.lamp(1, 1);
            lampDue("the greatest shine", x, 0, 1, 30);
            lampDue("the least shine", x, 1, 1, 1);
        });
        holds(10, "2 what it does,", () -> {
            CoughLamps x = twoLamps(1, 1);
            lampDue("at first", x, 1, 2, CoughLamps.ASLEEP);
            x.cough(0);
            lampDue("heard a cough", x, 1, 2, CoughLamps.LIT);
            x.ticks(1);
            lampDue("a tick later", x, 1, 2, CoughLamps.DIM_LIT);
            x.ticks(1);
            lampDue("two ticks later", x, 1, 2, CoughLamps.ASLEEP);
        });
        holds(10, "3 how it is,", () -> {
            CoughLamps x = lampsAt(10, 20, 30);
            x.mend(1, CoughLamps.BLIND);
            x.mend(2, CoughLamps.BROKEN);
            for (int lamp = 0; lamp < 3; lamp++) {
                lampDue("how it is", x, lamp, 3, lamp);
            }
            x.mend(2, CoughLamps.WELL);
            lampDue("mended", x, 2, 3, CoughLamps.WELL);
        });
    }

    private static void lampsTheirTicks() {
        holds(10, "4 the ticks that it has left (0 if it is ASLEEP),", () -> {
            CoughLamps x = twoLamps(50, 50);
            lampDue("at first", x, 1, 4, 0);
            x.cough(0);
            lampDue("LIT", x, 1, 4, 50);
            x.ticks(49);
            lampDue("LIT for the last tick", x, 1, 4, 1);
            x.ticks(1);
            lampDue("DIM_LIT", x, 1, 4, 50);
            x.ticks(49);
            lampDue("DIM_LIT for the last tick", x, 1, 4, 1);
            x.ticks(1);
            lampDue("ASLEEP", x, 1, 4, 0);
            x.ticks(1);
            lampDue("ASLEEP on", x, 1, 4, 0);
            x.cough(0);
            x.mend(1, CoughLamps.BROKEN);
            lampDue("BROKEN while LIT", x, 1, 4, 0);
        });
        holds(10, "5 the ticks that it has to wait (NONE if it does not wait),", () -> {
            for (int wait : new int[] {1, 10}) {
                CoughLamps x = lampsAt(10, 20);
                x.set(CoughLamps.WAIT, wait);
                lampDue("at first", x, 1, 5, NONE);
                x.cough(0);
                lampDue("who coughed does not wait", x, 0, 5, NONE);
                for (int left = wait; left > 0; left--) {
                    lampDue("waits", x, 1, 5, left);
                    x.ticks(1);
                }
                lampDue("has none left", x, 1, 5, NONE);
            }
            CoughLamps y = twoLamps(8, 6);
            y.cough(0);
            lampDue("LIT, but does not wait", y, 1, 5, NONE);
        });
        holds(10, "6 the rank with which it will cough then (NONE),", () -> {
            CoughLamps x = lampsAt(10, 20);
            x.set(CoughLamps.WAIT, 1);
            x.set(CoughLamps.CHAIN, 6);
            lampDue("at first", x, 1, 6, NONE);
            x.cough(0);
            for (int rank = 1; rank <= 6; rank++) {
                lampDue("who waits", x, rank % 2, 6, rank);
                lampDue("who does not wait", x, 1 - rank % 2, 6, NONE);
                x.ticks(1);
            }
            lampDue("nobody waits", x, 0, 6, NONE);
            lampDue("nobody waits", x, 1, 6, NONE);
            CoughLamps y = lampsAt(10, 20);
            y.cough(0);
            y.mend(1, CoughLamps.BROKEN);
            lampDue("BROKEN while it waits", y, 1, 6, NONE);
        });
    }

    private static void lampsSoFar() {
        holds(10, "7 units of light so far,", () -> {
            CoughLamps x = twoLamps(2, 3);
            x.cough(0);
            int[] light = {4, 5, 6, 7, 7};
            lampDue("ahead of the first tick", x, 1, 7, 0);
            for (int i = 0; i < light.length; i++) {
                x.ticks(1);
                lampDue("tick " + (i + 1), x, 1, 7, light[i]);
                lampDue("who coughed is ASLEEP", x, 0, 7, 0);
            }
            x.cough(0);
            x.ticks(1);
            lampDue("lit once more", x, 1, 7, 11);
            x.mend(1, CoughLamps.BROKEN);
            lampDue("what was used stays", x, 1, 7, 11);
        });
        holds(10, "8 coughs so far,", () -> {
            CoughLamps x = lampsAt(10, 20, 90);
            lampDue("at first", x, 0, 8, 0);
            x.cough(0);
            lampDue("by order", x, 0, 8, 1);
            x.cough(2);
            lampDue("by order, heard by nobody", x, 2, 8, 1);
            x.ticks(2);
            lampDue("in its turn", x, 1, 8, 1);
            x.ticks(2);
            lampDue("in its turn", x, 0, 8, 2);
            x.walker(90, 1);
            x.ticks(1);
            lampDue("for a walker", x, 2, 8, 2);
            x.ticks(5);
            lampDue("LIT on", x, 2, 8, 2);
        });
        holds(10, "9 coughs that it heard so far,", () -> {
            CoughLamps x = lampsAt(10, 20, 24);
            x.mend(2, CoughLamps.BLIND);
            x.cough(0);
            lampDue("its own one is not heard", x, 0, 9, 0);
            lampDue("heard", x, 1, 9, 1);
            x.cough(0);
            lampDue("heard while LIT and waiting", x, 1, 9, 2);
            lampDue("heard by a blind one", x, 2, 9, 2);
            x.mend(2, CoughLamps.BROKEN);
            x.cough(0);
            lampDue("heard", x, 1, 9, 3);
            lampDue("a broken one hears nothing", x, 2, 9, 2);
        });
        holds(10, "10 dark ticks for which it was to blame so far", () -> {
            CoughLamps x = lampsAt(10, 60);
            x.walker(20, 1);
            x.walker(30, 1);
            x.walker(36, 1);
            lampDue("ahead of the first tick", x, 0, 10, 0);
            x.ticks(3);
            lampDue("two walkers, three ticks", x, 0, 10, 6);
            lampDue("one walker, three ticks", x, 1, 10, 3);
            x.goal(1, 30, 0);
            x.ticks(1);
            lampDue("one is home", x, 0, 10, 7);
        });
    }

    private static void lampsThatAreNot() {
        holds(10, "Returns the number; NO_SUCH if there is no such lamp;", () -> {
            due("without lamps", new CoughLamps().ofLamp(0, 0), NO_SUCH);
            CoughLamps x = lampsAt(10, 20);
            due("ofLamp(-1, 0)", x.ofLamp(-1, 0), NO_SUCH);
            due("ofLamp(0, 0)", x.ofLamp(0, 0), 10);
            due("ofLamp(1, 0)", x.ofLamp(1, 0), 20);
            due("ofLamp(2, 0)", x.ofLamp(2, 0), NO_SUCH);
            due("ofLamp(16, 0) of 16", fullStreet().ofLamp(16, 0), NO_SUCH);
            x.undo();
            due("undone", x.ofLamp(1, 0), NO_SUCH);
            for (int wrong : WRONG) {
                due("lamp " + wrong, x.ofLamp(wrong, 0), NO_SUCH);
            }
        });
        holds(10, "BAD_VALUE if what is out of range.", () -> {
            CoughLamps x = lampsAt(10);
            due("ofLamp(0, -1)", x.ofLamp(0, -1), BAD_VALUE);
            due("ofLamp(0, 10)", x.ofLamp(0, 10), 0);
            due("ofLamp(0, 11)", x.ofLamp(0, 11), BAD_VALUE);
            for (int wrong : WRONG) {
                due("what " + wrong, x.ofLamp(0, wrong), BAD_VALUE);
            }
        });
        holds(10, IN_ORDER, () -> {
            due("no such, and bad", lampsAt(10).ofLamp(1, 11), NO_SUCH);
            due("no such, and bad", new CoughLamps().ofLamp(0, -1), NO_SUCH);
        });
        holds(10, CHANGES_NOTHING, () -> {
            refused("ofLamp(3, 0)", NO_SUCH, Sentences::busyStreet, x -> x.ofLamp(3, 0));
            refused("ofLamp(0, 11)", BAD_VALUE, Sentences::busyStreet, x -> x.ofLamp(0, 11));
        });
    }

    // ---- walkers

    private static void walkersOnTheirWay() {
        holds(11, "Returns something about a walker.", () -> {
            for (int i = 0; i <= 8; i++) {
                int what = i;
                changesNothing("ofWalker(0, " + what + ")", Sentences::busyStreet, x -> x.ofWalker(0, what));
            }
        });
        holds(11, "- `what`: 0 the step,", () -> {
            CoughLamps x = new CoughLamps();
            x.walker(0, 1);
            x.walker(99, 1);
            x.goal(0, 2, 0);
            walkerDue("the first step", x, 0, 0, 0);
            walkerDue("the last step", x, 1, 0, 99);
            x.ticks(1);
            walkerDue("a step on", x, 0, 0, 1);
            x.ticks(9);
            walkerDue("where it was when home", x, 0, 0, 2);
        });
        holds(11, "1 the pace,", () -> {
            CoughLamps x = new CoughLamps();
            for (int pace = 1; pace <= 4; pace++) {
                x.walker(0, pace);
            }
            x.goal(3, 0, 0);
            x.ticks(1);
            for (int walker = 0; walker < 4; walker++) {
                walkerDue("the pace", x, walker, 1, walker + 1);
            }
        });
        holds(11, "2 whether home (1 or 0),", () -> {
            CoughLamps x = new CoughLamps();
            x.walker(10, 1);
            walkerDue("without a goal", x, 0, 2, 0);
            x.goal(0, 10, 1);
            walkerDue("with a goal", x, 0, 2, 0);
            x.ticks(1);
            walkerDue("rests", x, 0, 2, 0);
            x.ticks(1);
            walkerDue("without a goal that is left", x, 0, 2, 1);
        });
        holds(11, "3 the step of the goal that is gone to, or at which the walker rests (NONE),", () -> {
            CoughLamps x = new CoughLamps();
            x.walker(10, 1);
            walkerDue("never had one", x, 0, 3, NONE);
            x.goal(0, 11, 2);
            x.goal(0, 0, 0);
            walkerDue("is gone to", x, 0, 3, 11);
            x.ticks(2);
            walkerDue("rests at it", x, 0, 3, 11);
            x.ticks(1);
            walkerDue("the next one, step 0", x, 0, 3, 0);
            x.ticks(11);
            walkerDue("home", x, 0, 3, NONE);
        });
        holds(11, "4 goals that are left (with that one),", () -> {
            CoughLamps x = new CoughLamps();
            x.walker(10, 1);
            walkerDue("never had one", x, 0, 4, 0);
            for (int goals = 1; goals <= 6; goals++) {
                x.goal(0, 10, 0);
                walkerDue("with that one", x, 0, 4, goals);
            }
            for (int goals = 5; goals >= 0; goals--) {
                x.ticks(1);
                walkerDue("one is done", x, 0, 4, goals);
            }
        });
        holds(11, "5 the ticks that the walker has rested there (NONE if the walker does not rest),", () -> {
            CoughLamps x = new CoughLamps();
            x.walker(10, 1);
            walkerDue("without a goal", x, 0, 5, NONE);
            x.goal(0, 12, 20);
            x.goal(0, 14, 0);
            x.ticks(1);
            walkerDue("on the way", x, 0, 5, NONE);
            for (int rested = 0; rested < 20; rested++) {
                x.ticks(1);
                walkerDue("rests", x, 0, 5, rested);
            }
            x.ticks(1);
            walkerDue("the pause is over", x, 0, 5, NONE);
            x.ticks(2);
            walkerDue("home", x, 0, 5, NONE);
        });
    }

    private static void walkersSoFar() {
        holds(11, "6 dark ticks so far,", () -> {
            CoughLamps x = lampsAt(10, 20);
            x.walker(25, 1);
            x.walker(26, 1);
            x.set(CoughLamps.EYES, 0);
            walkerDue("ahead of the first tick", x, 0, 6, 0);
            x.ticks(2);
            walkerDue("dark", x, 0, 6, 2);
            x.cough(0);
            walkerDue("lit now, but it was dark", x, 0, 6, 2);
            x.ticks(3);
            walkerDue("lit", x, 0, 6, 2);
            walkerDue("dark", x, 1, 6, 5);
            x.goal(1, 26, 0);
            x.ticks(3);
            walkerDue("home", x, 1, 6, 5);
        });
        holds(11, "7 whether the step is lit now (1 or 0; 0 if home),", () -> {
            CoughLamps x = lampsAt(10, 20);
            x.set(CoughLamps.EYES, 0);
            x.walker(25, 1);
            x.walker(15, 1);
            x.walker(26, 1);
            x.walker(14, 1);
            x.walker(21, 1);
            x.goal(4, 21, 0);
            walkerDue("dark", x, 0, 7, 0);
            x.cough(0);
            int[] lit = {1, 1, 0, 0, 1};
            for (int i = 0; i < lit.length; i++) {
                walkerDue("lit now", x, i, 7, lit[i]);
            }
            x.ticks(1);
            due("the step is lit", x.lightAt(21), 2);
            walkerDue("home at a lit step", x, 4, 7, 0);
            x.mend(1, CoughLamps.BROKEN);
            walkerDue("dark at once", x, 0, 7, 0);
        });
        holds(11, "8 steps that were walked so far", () -> {
            CoughLamps x = new CoughLamps();
            x.walker(10, 4);
            x.walker(90, 4);
            x.goal(0, 15, 2);
            x.goal(0, 0, 0);
            walkerDue("at first", x, 0, 8, 0);
            int[] walked = {4, 5, 5, 5, 9, 13, 17, 20, 20};
            for (int i = 0; i < walked.length; i++) {
                x.ticks(1);
                walkerDue("tick " + (i + 1), x, 0, 8, walked[i]);
            }
            walkerDue("stays", x, 1, 8, 0);
        });
    }

    private static void walkersWhoAreNot() {
        holds(11, "Returns the number; NO_SUCH if there is no such walker;", () -> {
            due("without walkers", new CoughLamps().ofWalker(0, 0), NO_SUCH);
            CoughLamps x = new CoughLamps();
            x.walker(10, 1);
            x.walker(20, 1);
            due("ofWalker(-1, 0)", x.ofWalker(-1, 0), NO_SUCH);
            due("ofWalker(0, 0)", x.ofWalker(0, 0), 10);
            due("ofWalker(1, 0)", x.ofWalker(1, 0), 20);
            due("ofWalker(2, 0)", x.ofWalker(2, 0), NO_SUCH);
            due("ofWalker(8, 0) of 8", fullStreet().ofWalker(8, 0), NO_SUCH);
            due("ofWalker(7, 0) of 8", fullStreet().ofWalker(7, 0), 84);
            x.undo();
            due("undone", x.ofWalker(1, 0), NO_SUCH);
            for (int wrong : WRONG) {
                due("walker " + wrong, x.ofWalker(wrong, 0), NO_SUCH);
            }
        });
        holds(11, "BAD_VALUE if what is out of range.", () -> {
            CoughLamps x = new CoughLamps();
            x.walker(10, 1);
            due("ofWalker(0, -1)", x.ofWalker(0, -1), BAD_VALUE);
            due("ofWalker(0, 8)", x.ofWalker(0, 8), 0);
            due("ofWalker(0, 9)", x.ofWalker(0, 9), BAD_VALUE);
            for (int wrong : WRONG) {
                due("what " + wrong, x.ofWalker(0, wrong), BAD_VALUE);
            }
        });
        holds(11, IN_ORDER, () -> {
            due("no such, and bad", fullStreet().ofWalker(8, 9), NO_SUCH);
            due("no such, and bad", new CoughLamps().ofWalker(0, -1), NO_SUCH);
        });
        holds(11, CHANGES_NOTHING, () -> {
            refused("ofWalker(2, 0)", NO_SUCH, Sentences::busyStreet, x -> x.ofWalker(2, 0));
            refused("ofWalker(0, 9)", BAD_VALUE, Sentences::busyStreet, x -> x.ofWalker(0, 9));
        });
    }

    // ---- houses

    private static void houses() {
        holds(12, "Returns something about a house.", () -> {
            for (int i = 0; i <= 2; i++) {
                int what = i;
                changesNothing("ofHouse(0, " + what + ")", Sentences::busyStreet, x -> x.ofHouse(0, what));
            }
        });
        holds(12, "- `what`: 0 its step,", () -> {
            CoughLamps x = new CoughLamps();
            x.house(99);
            x.house(0);
            houseDue("the last step", x, 0, 0, 99);
            houseDue("the first step", x, 1, 0, 0);
        });
        holds(12, "1 whether the sleeper is disturbed now (1 or 0),", () -> {
            CoughLamps x = twoLamps(1, 5);
            x.house(21);
            x.house(22);
            houseDue("ASLEEP", x, 0, 1, 0);
            x.cough(0);
            houseDue("LIT, and near", x, 0, 1, 1);
            houseDue("LIT, but too far", x, 1, 1, 0);
            x.ticks(1);
            houseDue("DIM_LIT", x, 0, 1, 0);
            x.cough(0);
            x.mend(1, CoughLamps.BROKEN);
            houseDue("BROKEN", x, 0, 1, 0);
        });
        holds(12, "2 disturbed ticks so far", () -> {
            CoughLamps x = twoLamps(3, 5);
            x.house(19);
            x.house(18);
            x.cough(0);
            int[] disturbed = {1, 2, 2, 2};
            houseDue("ahead of the first tick", x, 0, 2, 0);
            for (int i = 0; i < disturbed.length; i++) {
                x.ticks(1);
                houseDue("tick " + (i + 1), x, 0, 2, disturbed[i]);
                houseDue("too far", x, 1, 2, 0);
            }
        });
        holds(12, "Returns the number; NO_SUCH if there is no such house; BAD_VALUE if what is out of range.", () -> {
            due("without houses", new CoughLamps().ofHouse(0, 0), NO_SUCH);
            CoughLamps x = new CoughLamps();
            x.house(10);
            x.house(20);
            due("ofHouse(-1, 0)", x.ofHouse(-1, 0), NO_SUCH);
            due("ofHouse(0, 0)", x.ofHouse(0, 0), 10);
            due("ofHouse(1, 0)", x.ofHouse(1, 0), 20);
            due("ofHouse(2, 0)", x.ofHouse(2, 0), NO_SUCH);
            due("ofHouse(8, 0) of 8", fullStreet().ofHouse(8, 0), NO_SUCH);
            due("ofHouse(7, 0) of 8", fullStreet().ofHouse(7, 0), 85);
            due("ofHouse(0, -1)", x.ofHouse(0, -1), BAD_VALUE);
            due("ofHouse(0, 2)", x.ofHouse(0, 2), 0);
            due("ofHouse(0, 3)", x.ofHouse(0, 3), BAD_VALUE);
            for (int wrong : WRONG) {
                due("house " + wrong, x.ofHouse(wrong, 0), NO_SUCH);
                due("what " + wrong, x.ofHouse(0, wrong), BAD_VALUE);
            }
            x.undo();
            due("undone", x.ofHouse(1, 0), NO_SUCH);
        });
        holds(12, IN_ORDER, () -> {
            due("no such, and bad", fullStreet().ofHouse(8, 3), NO_SUCH);
            due("no such, and bad", new CoughLamps().ofHouse(0, -1), NO_SUCH);
        });
        holds(12, CHANGES_NOTHING, () -> {
            refused("ofHouse(1, 0)", NO_SUCH, Sentences::busyStreet, x -> x.ofHouse(1, 0));
            refused("ofHouse(0, 3)", BAD_VALUE, Sentences::busyStreet, x -> x.ofHouse(0, 3));
        });
    }

    // ---- light and hearing

    private static void lightAt() {
        holds(13, "Returns the lamps that light a step now, as a set.", () -> {
            CoughLamps x = sixteenLit();
            due("all", x.lightAt(50), ALL_LAMPS);
            due("the first one's last step", x.lightAt(12), 1);
            due("beyond it", x.lightAt(11), 0);
            due("the first two", x.lightAt(13), 3);
            due("the last one's last step", x.lightAt(87), 1 << 15);
            due("beyond it", x.lightAt(88), 0);
            x.mend(3, CoughLamps.BROKEN);
            due("without a broken one", x.lightAt(50), ALL_LAMPS - 8);
            x.ticks(2);
            x.set(CoughLamps.CHAIN, 0);
            x.ticks(8);
            due("all the others are DIM_LIT", x.lightAt(50), ALL_LAMPS - 8);
            due("half the shine", x.lightAt(27), 1);
            due("beyond it", x.lightAt(26), 0);
            x.ticks(6);
            due("none", x.lightAt(50), 0);
        });
        holds(13, "Returns the set; NO_SUCH if there is no such step.", () -> {
            CoughLamps x = lampsAt(0, 99, 50);
            x.set(CoughLamps.REACH, 60);
            due("ASLEEP", x.lightAt(0), 0);
            x.cough(2);
            due("lightAt(-1)", x.lightAt(-1), NO_SUCH);
            due("lightAt(0)", x.lightAt(0), 1);
            due("lightAt(99)", x.lightAt(99), 2);
            due("lightAt(100)", x.lightAt(100), NO_SUCH);
            for (int wrong : WRONG) {
                due("lightAt(" + wrong + ")", x.lightAt(wrong), NO_SUCH);
            }
            changesNothing("lightAt(20)", Sentences::busyStreet, y -> y.lightAt(20));
        });
        holds(13, CHANGES_NOTHING, () -> {
            refused("lightAt(100)", NO_SUCH, Sentences::busyStreet, x -> x.lightAt(100));
            refused("lightAt(-1)", NO_SUCH, Sentences::busyStreet, x -> x.lightAt(-1));
        });
    }

    private static void hearers() {
        holds(14, "Returns the lamps that would hear a lamp cough now, as a set.", () -> {
            CoughLamps x = sixteenLit();
            for (int i = 0; i < 16; i++) {
                due("all the others", x.hearers(i), ALL_LAMPS - (1 << i));
            }
            x.set(CoughLamps.REACH, 1);
            due("lamp 0's neighbour", x.hearers(0), 2);
            due("lamp 15's neighbour", x.hearers(15), 1 << 14);
            due("lamp 7's neighbours", x.hearers(7), 1 << 6 | 1 << 8);
            x.mend(6, CoughLamps.BROKEN);
            x.mend(8, CoughLamps.BLIND);
            due("a blind one hears, a broken one does not", x.hearers(7), 1 << 8);
            due("as many as hear it", x.cough(7), 1);
            due("nobody else is there", lampsAt(10).hearers(0), 0);
            CoughLamps y = lampsAt(10, 70, 71);
            y.set(CoughLamps.REACH, 60);
            due("60 steps away, and not 61", y.hearers(0), 2);
        });
        holds(14, "Returns the set (0 if it is BROKEN);", () -> {
            CoughLamps x = lampsAt(10, 20);
            x.mend(0, CoughLamps.BLIND);
            due("BLIND", x.hearers(0), 2);
            x.mend(0, CoughLamps.BROKEN);
            due("BROKEN", x.hearers(0), 0);
            due("the other one", x.hearers(1), 0);
            x.mend(0, CoughLamps.WELL);
            due("WELL again", x.hearers(0), 2);
        });
        holds(14, "NO_SUCH if there is no such lamp.", () -> {
            due("without lamps", new CoughLamps().hearers(0), NO_SUCH);
            CoughLamps x = lampsAt(10, 20);
            due("hearers(-1)", x.hearers(-1), NO_SUCH);
            due("hearers(1)", x.hearers(1), 1);
            due("hearers(2)", x.hearers(2), NO_SUCH);
            due("hearers(16) of 16", fullStreet().hearers(16), NO_SUCH);
            for (int wrong : WRONG) {
                due("hearers(" + wrong + ")", x.hearers(wrong), NO_SUCH);
            }
            changesNothing("hearers(1)", Sentences::busyStreet, y -> y.hearers(1));
        });
        holds(14, CHANGES_NOTHING, () -> refused("hearers(3)", NO_SUCH, Sentences::busyStreet, x -> x.hearers(3)));
    }

    // ---- counts

    private static void countsOfWhatThereIs() {
        holds(15, "Returns a number.", () -> {
            for (int i = 0; i <= 18; i++) {
                int what = i;
                changesNothing("count(" + what + ")", Sentences::busyStreet, x -> x.count(what));
            }
        });
        holds(15, "- `what`: 0 the tick,", () -> {
            CoughLamps x = new CoughLamps();
            countDue("at first", x, 0, 0);
            x.ticks(200);
            x.ticks(1);
            countDue("201 ticks", x, 0, 201);
            x.undo();
            countDue("undone", x, 0, 200);
        });
        holds(15, "1 lamps, 2 houses, 3 walkers who came,", () -> {
            CoughLamps x = new CoughLamps();
            for (int what = 1; what <= 3; what++) {
                countDue("none", x, what, 0);
            }
            x.lamp(1, 1);
            countDue("a lamp", x, 1, 1);
            x.house(1);
            x.house(1);
            countDue("two houses", x, 2, 2);
            x.walker(1, 1);
            x.walker(1, 1);
            x.walker(1, 1);
            x.goal(1, 1, 0);
            x.ticks(1);
            x.mend(0, CoughLamps.BROKEN);
            countDue("a broken one is counted", x, 1, 1);
            countDue("one who is home came, too", x, 3, 3);
            int[] most = {16, 8, 8};
            for (int what = 1; what <= 3; what++) {
                countDue("a full street", fullStreet(), what, most[what - 1]);
            }
        });
        holds(15, "4 walkers in the street,", () -> {
            CoughLamps x = new CoughLamps();
            countDue("nobody", x, 4, 0);
            for (int i = 0; i < 8; i++) {
                x.walker(10, 1);
                countDue("came", x, 4, i + 1);
                x.goal(i, 10 + i, 0);
            }
            for (int left = 6; left > 0; left--) {
                x.ticks(1);
                countDue("not yet home", x, 4, left);
            }
            x.ticks(1);
            countDue("all are home", x, 4, 0);
            countDue("all came", x, 3, 8);
        });
        holds(15, "5 LIT lamps, 6 DIM_LIT lamps,", () -> {
            CoughLamps x = sixteenLit();
            countDue("all", x, 5, 16);
            countDue("all", x, 6, 0);
            x.set(CoughLamps.CHAIN, 0);
            x.ticks(7);
            x.set(CoughLamps.REACH, 1);
            x.cough(0);
            x.ticks(3);
            countDue("lamps that heard it", x, 5, 1);
            countDue("the others", x, 6, 15);
            x.mend(1, CoughLamps.BROKEN);
            x.mend(2, CoughLamps.BROKEN);
            countDue("a broken one is ASLEEP", x, 5, 0);
            countDue("a broken one is ASLEEP", x, 6, 14);
            x.ticks(10);
            countDue("ASLEEP", x, 6, 0);
        });
    }

    private static void countsSoFar() {
        holds(15, "7 units of light so far,", () -> {
            CoughLamps x = sixteenLit();
            x.set(CoughLamps.CHAIN, 0);
            countDue("ahead of the first tick", x, 7, 0);
            x.mend(0, CoughLamps.BROKEN);
            x.ticks(1);
            countDue("15 LIT ones", x, 7, 60);
            x.mend(1, CoughLamps.BROKEN);
            countDue("what a broken one used stays", x, 7, 60);
        });
        holds(15, "8 dark ticks so far,", () -> {
            CoughLamps x = lampsAt(10);
            x.walker(10, 1);
            x.walker(50, 1);
            x.walker(60, 1);
            x.goal(2, 60, 1);
            x.ticks(1);
            countDue("two walkers", x, 8, 2);
            x.ticks(1);
            countDue("one is home", x, 8, 3);
            x.ticks(1);
            countDue("what one who is home had stays", x, 8, 4);
            CoughLamps y = new CoughLamps();
            y.walker(0, 1);
            y.ticks(5);
            countDue("dark ticks without a lamp", y, 8, 5);
        });
        holds(15, "9 disturbed ticks so far,", () -> {
            CoughLamps x = twoLamps(3, 6);
            x.house(19);
            x.house(21);
            x.house(22);
            x.cough(0);
            countDue("ahead of the first tick", x, 9, 0);
            x.ticks(1);
            countDue("two sleepers", x, 9, 2);
            x.ticks(5);
            countDue("two sleepers, two ticks", x, 9, 4);
        });
        holds(15, "10 coughs so far,", () -> {
            CoughLamps x = lampsAt(10, 20, 90);
            x.cough(0);
            countDue("by order", x, 10, 1);
            x.ticks(4);
            countDue("two in their turn", x, 10, 3);
            x.walker(90, 1);
            x.ticks(1);
            countDue("for a walker", x, 10, 4);
            x.mend(0, CoughLamps.BROKEN);
            countDue("a broken one's stay", x, 10, 4);
        });
    }

    private static void countsOfTheRest() {
        holds(15, "11 to 16 the settings,", () -> {
            CoughLamps x = new CoughLamps();
            int[] first = {3, 14, 8, 6, 2, 2};
            for (int setting = 0; setting < 6; setting++) {
                countDue("first value", x, 11 + setting, first[setting]);
            }
            for (int setting = 0; setting < 6; setting++) {
                x.set(setting, 1 + setting % 5);
            }
            for (int setting = 0; setting < 6; setting++) {
                countDue("set", x, 11 + setting, 1 + setting % 5);
            }
        });
        holds(15, "17 the length of the pad,", () -> {
            CoughLamps x = new CoughLamps();
            countDue("empty", x, 17, 0);
            for (int length = 8; length <= 80; length += 8) {
                x.put(pack("aaaaaaaa"));
                countDue("longer", x, 17, length);
            }
            x.put('a');
            countDue("full", x, 17, 80);
            x.wipe();
            countDue("wiped", x, 17, 0);
        });
        holds(15, "18 how many changes can be undone", () -> {
            CoughLamps x = new CoughLamps();
            countDue("none", x, 18, 0);
            for (int change = 1; change <= 8; change++) {
                x.ticks(1);
                countDue("at most 6", x, 18, Math.min(change, 6));
            }
            for (int left = 5; left >= 0; left--) {
                x.undo();
                countDue("undone", x, 18, left);
            }
            x.undo();
            countDue("none", x, 18, 0);
        });
        holds(15, "Returns the number; BAD_VALUE if what is out of range.", () -> {
            CoughLamps x = busyStreet();
            due("count(-1)", x.count(-1), BAD_VALUE);
            due("count(0)", x.count(0), 5);
            due("count(18)", x.count(18), 5);
            due("count(19)", x.count(19), BAD_VALUE);
            for (int wrong : WRONG) {
                due("count(" + wrong + ")", x.count(wrong), BAD_VALUE);
            }
        });
        holds(15, CHANGES_NOTHING, () -> {
            refused("count(19)", BAD_VALUE, Sentences::busyStreet, x -> x.count(19));
            refused("count(-1)", BAD_VALUE, Sentences::busyStreet, x -> x.count(-1));
        });
    }
}
