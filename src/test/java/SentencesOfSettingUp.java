/** The document's conventions and settings, and promises 1 to 8. */
final class SentencesOfSettingUp extends Sentences {
    private SentencesOfSettingUp() {
    }

    static void all() {
        constants();
        newObject();
        conventions();
        settings();
        settingsAtWork();
        promise2();
        promise3();
        promise4();
        promise5();
        promise6();
        goalsAtTheirBound();
        promise7();
        promise8();
        coughsByOrder();
    }

    private static void constants() {
        holds(1, "The constants: `NO_SUCH = -1, BAD_VALUE = -2, BAD_TEXT = -3, TOO_MANY = -4, NOT_POSSIBLE = -5, NONE = -6`: "
                + "Error codes, and NONE: there is none.", () -> {
            due("NO_SUCH", CoughLamps.NO_SUCH, -1);
            due("BAD_VALUE", CoughLamps.BAD_VALUE, -2);
            due("BAD_TEXT", CoughLamps.BAD_TEXT, -3);
            due("TOO_MANY", CoughLamps.TOO_MANY, -4);
            due("NOT_POSSIBLE", CoughLamps.NOT_POSSIBLE, -5);
            due("NONE", CoughLamps.NONE, -6);
        });
        holds(2, "`EYES = 0, REACH = 1, AWAKE = 2, DIM = 3, WAIT = 4, CHAIN = 5`: Settings.", () -> {
            int[] named = {CoughLamps.EYES, CoughLamps.REACH, CoughLamps.AWAKE, CoughLamps.DIM, CoughLamps.WAIT, CoughLamps.CHAIN};
            for (int i = 0; i < named.length; i++) {
                due("setting " + i, named[i], i);
            }
        });
        holds(10, "`ASLEEP = 0, DIM_LIT = 1, LIT = 2`: What a lamp does.", () -> {
            due("ASLEEP", CoughLamps.ASLEEP, 0);
            due("DIM_LIT", CoughLamps.DIM_LIT, 1);
            due("LIT", CoughLamps.LIT, 2);
        });
        holds(7, "`WELL = 0, BLIND = 1, BROKEN = 2`: How a lamp is.", () -> {
            due("WELL", CoughLamps.WELL, 0);
            due("BLIND", CoughLamps.BLIND, 1);
            due("BROKEN", CoughLamps.BROKEN, 2);
        });
    }

    private static void newObject() {
        holds(1, "Creates a street without lamps, houses and walkers.", () -> {
            CoughLamps x = new CoughLamps();
            for (int what = 0; what <= 10; what++) {
                countDue("new", x, what, 0);
            }
            countDue("new", x, 17, 0);
            countDue("new", x, 18, 0);
            due("ofLamp(0, 0)", x.ofLamp(0, 0), NO_SUCH);
            due("ofWalker(0, 0)", x.ofWalker(0, 0), NO_SUCH);
            due("ofHouse(0, 0)", x.ofHouse(0, 0), NO_SUCH);
            due("goal(0, 0, 0)", x.goal(0, 0, 0), NO_SUCH);
            due("mend(0, 0)", x.mend(0, 0), NO_SUCH);
            due("cough(0)", x.cough(0), NO_SUCH);
            due("hearers(0)", x.hearers(0), NO_SUCH);
            due("homeIn(0)", x.homeIn(0), NO_SUCH);
            due("needless()", x.needless(), 0);
            due("bestReach(200)", x.bestReach(200), 1);
            for (int what = 0; what < 4; what++) {
                due("brings(200, " + what + ")", x.brings(200, what), 0);
            }
            for (int step = 0; step < 100; step++) {
                due("lightAt(" + step + ")", x.lightAt(step), 0);
            }
            due("ticks(1) in an empty street", x.ticks(1), 1);
        });
        holds(1, "The tick is 0 at first.", () -> {
            CoughLamps x = new CoughLamps();
            countDue("new", x, 0, 0);
            due("save(0)", x.save(0), 0);
            due("ticks(1)", x.ticks(1), 1);
        });
    }

    // ---- conventions

    private static void conventions() {
        holds(1, "CONVENTIONS. A method that fails returns one of the error codes "
                + "NO_SUCH (-1), BAD_VALUE (-2), BAD_TEXT (-3), TOO_MANY (-4) and NOT_POSSIBLE (-5);", () -> {
            CoughLamps x = new CoughLamps();
            due("cough(0) without a lamp", x.cough(0), -1);
            due("set(6, 0)", x.set(6, 0), -2);
            due("carryOut() of nothing", x.carryOut(), -3);
            due("undo() of nothing", x.undo(), -5);
            for (int i = 0; i < 8; i++) {
                due("house(0)", x.house(0), i);
            }
            due("house(0)", x.house(0), -4);
            for (int wrong : WRONG) {
                allFail(busyStreet(), wrong);
                allFail(new CoughLamps(), wrong);
            }
        });
        holds(10, "NONE (-6) is not an error; it is returned only if no error applies.", () -> {
            CoughLamps x = lampsAt(10);
            x.walker(0, 1);
            lampDue("does not wait", x, 0, 5, -6);
            lampDue("does not wait", x, 0, 6, -6);
            lampDue("no such lamp", x, 1, 5, NO_SUCH);
            walkerDue("without a goal", x, 0, 3, -6);
            walkerDue("does not rest", x, 0, 5, -6);
            walkerDue("no such walker", x, 1, 3, NO_SUCH);
            due("homeIn(0)", x.homeIn(0), -6);
            due("homeIn(1)", x.homeIn(1), NO_SUCH);
            x.put('t');
            x.put('1');
            due("fault()", x.fault(), -6);
        });
        holds(3, "Everything is numbered from 0, in the order in which it came.", () -> {
            CoughLamps x = new CoughLamps();
            for (int i = 0; i < 16; i++) {
                due("lamp", x.lamp(90 - i, 1 + i), i);
            }
            for (int i = 0; i < 16; i++) {
                lampDue("in its order", x, i, 0, 90 - i);
                lampDue("in its order", x, i, 1, 1 + i);
            }
            for (int i = 0; i < 8; i++) {
                due("house", x.house(50 - i), i);
                due("walker", x.walker(70 - i, 1 + i % 4), i);
            }
            for (int i = 0; i < 8; i++) {
                houseDue("in its order", x, i, 0, 50 - i);
                walkerDue("in its order", x, i, 0, 70 - i);
                walkerDue("in its order", x, i, 1, 1 + i % 4);
            }
        });
        holds(14, "Sets of lamps are bit masks.", () -> {
            CoughLamps x = fullStreet();
            due("hearers(15)", x.hearers(15), 1 << 14 | 1 << 13);
            due("hearers(0)", x.hearers(0), 1 << 1 | 1 << 2);
            due("lightAt(91)", x.lightAt(91), 1 << 15);
            due("lightAt(0)", x.lightAt(0), 1);
        });
    }

    private static void allFail(CoughLamps x, int wrong) {
        int[] answers = {x.set(wrong, 1), x.set(0, wrong), x.lamp(wrong, 1), x.lamp(1, wrong), x.house(wrong), x.walker(wrong, 1),
            x.walker(1, wrong), x.goal(wrong, 1, 1), x.goal(0, wrong, 1), x.goal(0, 1, wrong), x.mend(wrong, 1), x.mend(0, wrong),
            x.cough(wrong), x.ticks(wrong), x.ofLamp(wrong, 0), x.ofLamp(0, wrong), x.ofWalker(wrong, 0), x.ofWalker(0, wrong),
            x.ofHouse(wrong, 0), x.ofHouse(0, wrong), x.lightAt(wrong), x.hearers(wrong), x.count(wrong), x.homeIn(wrong),
            x.brings(wrong, 0), x.brings(1, wrong), x.bestReach(wrong), x.save(wrong), x.restore(wrong), x.put(-1L)};
        for (int i = 0; i < answers.length; i++) {
            Check.holds("call " + i + " with " + wrong + " answers an error code", answers[i] <= -1 && answers[i] >= -5);
        }
    }

    // ---- settings

    private static void settings() {
        holds(2, "(In parentheses: range; first value.) EYES (0 to 20; 3)", () -> range(CoughLamps.EYES, 0, 20, 3));
        holds(2, "REACH (1 to 60; 14)", () -> range(CoughLamps.REACH, 1, 60, 14));
        holds(2, "AWAKE (1 to 50; 8)", () -> range(CoughLamps.AWAKE, 1, 50, 8));
        holds(2, "DIM (0 to 50; 6)", () -> range(CoughLamps.DIM, 0, 50, 6));
        holds(2, "WAIT (1 to 10; 2)", () -> range(CoughLamps.WAIT, 1, 10, 2));
        holds(2, "CHAIN (0 to 6; 2).", () -> range(CoughLamps.CHAIN, 0, 6, 2));
    }

    private static void range(int setting, int least, int most, int first) {
        CoughLamps x = new CoughLamps();
        countDue("first value", x, 11 + setting, first);
        due("below the range", x.set(setting, least - 1), BAD_VALUE);
        due("above the range", x.set(setting, most + 1), BAD_VALUE);
        countDue("refused", x, 11 + setting, first);
        countDue("refused", x, 18, 0);
        due("the least value", x.set(setting, least), first);
        countDue("the least value", x, 11 + setting, least);
        due("below the range", x.set(setting, least - 1), BAD_VALUE);
        countDue("refused", x, 11 + setting, least);
        for (int value = least + 1; value <= most; value++) {
            due("value " + value, x.set(setting, value), value - 1);
        }
        countDue("the greatest value", x, 11 + setting, most);
        due("above the range", x.set(setting, most + 1), BAD_VALUE);
        countDue("refused", x, 11 + setting, most);
        for (int wrong : WRONG) {
            due("value " + wrong, x.set(setting, wrong), BAD_VALUE);
        }
        countDue("refused", x, 11 + setting, most);
    }

    private static void settingsAtWork() {
        holds(2, "EYES (0 to 20; 3) and REACH (1 to 60; 14), in steps.", () -> {
            for (int eyes : new int[] {0, 1, 3, 20}) {
                Check.holds("EYES " + eyes + ": sees as far", seen(eyes, eyes));
                Check.holds("EYES " + eyes + ": sees as far to the other side", seen(eyes, -eyes));
                Check.holds("EYES " + eyes + ": sees no farther", !seen(eyes, eyes + 1));
                Check.holds("EYES " + eyes + ": sees no farther to the other side", !seen(eyes, -eyes - 1));
            }
            for (int reach : new int[] {1, 2, 14, 60}) {
                due("REACH " + reach + ": as far", heard(reach, 20, 20 + reach), 1);
                due("REACH " + reach + ": as far to the other side", heard(reach, 20 + reach, 20), 1);
                due("REACH " + reach + ": farther", heard(reach, 20, 21 + reach), 0);
                due("REACH " + reach + ": farther to the other side", heard(reach, 21 + reach, 20), 0);
            }
        });
        holds(2, "AWAKE (1 to 50; 8), DIM (0 to 50; 6) and WAIT (1 to 10; 2), in ticks.", () -> {
            for (int awake : new int[] {1, 2, 8, 50}) {
                litFor(awake);
            }
            for (int dim : new int[] {0, 1, 6, 50}) {
                dimFor(dim);
            }
            for (int wait : new int[] {1, 2, 10}) {
                waitsFor(wait);
            }
        });
        holds(8, "CHAIN (0 to 6; 2)", () -> {
            for (int chain = 0; chain <= 6; chain++) {
                CoughLamps x = lampsAt(10, 20);
                x.set(CoughLamps.WAIT, 1);
                x.set(CoughLamps.CHAIN, chain);
                x.cough(0);
                x.ticks(20);
                countDue("CHAIN " + chain, x, 10, chain + 1);
            }
        });
    }

    private static boolean seen(int eyes, int away) {
        CoughLamps x = lampsAt(50);
        x.set(CoughLamps.EYES, eyes);
        x.walker(50 + away, 1);
        x.ticks(1);
        return isLit(x, 0);
    }

    private static int heard(int reach, int cougher, int hearer) {
        CoughLamps x = lampsAt(cougher, hearer);
        x.set(CoughLamps.REACH, reach);
        int answer = x.cough(0);
        Check.holds("it is lit if it heard", isLit(x, 1) == (answer == 1));
        return answer;
    }

    private static void litFor(int awake) {
        CoughLamps x = lampsAt(10, 20);
        x.set(CoughLamps.CHAIN, 0);
        x.set(CoughLamps.AWAKE, awake);
        x.cough(0);
        lampDue("AWAKE " + awake, x, 1, 4, awake);
        pass(x, awake - 1);
        lampDue("AWAKE " + awake, x, 1, 2, CoughLamps.LIT);
        lampDue("AWAKE " + awake, x, 1, 4, 1);
        x.ticks(1);
        lampDue("AWAKE " + awake, x, 1, 2, CoughLamps.DIM_LIT);
        lampDue("AWAKE " + awake, x, 1, 4, 6);
    }

    private static void dimFor(int dim) {
        CoughLamps x = lampsAt(10, 20);
        x.set(CoughLamps.CHAIN, 0);
        x.set(CoughLamps.AWAKE, 1);
        x.set(CoughLamps.DIM, dim);
        x.cough(0);
        x.ticks(1);
        lampDue("DIM " + dim, x, 1, 2, dim == 0 ? CoughLamps.ASLEEP : CoughLamps.DIM_LIT);
        lampDue("DIM " + dim, x, 1, 4, dim);
        if (dim > 0) {
            pass(x, dim - 1);
            lampDue("DIM " + dim, x, 1, 2, CoughLamps.DIM_LIT);
            lampDue("DIM " + dim, x, 1, 4, 1);
            x.ticks(1);
        }
        lampDue("DIM " + dim, x, 1, 2, CoughLamps.ASLEEP);
        lampDue("DIM " + dim, x, 1, 4, 0);
        lampDue("DIM " + dim, x, 1, 7, dim);
    }

    private static void waitsFor(int wait) {
        CoughLamps x = lampsAt(10, 20);
        x.set(CoughLamps.WAIT, wait);
        x.cough(0);
        lampDue("WAIT " + wait, x, 1, 5, wait);
        pass(x, wait - 1);
        lampDue("WAIT " + wait, x, 1, 5, 1);
        lampDue("WAIT " + wait, x, 1, 8, 0);
        x.ticks(1);
        lampDue("WAIT " + wait, x, 1, 5, NONE);
        lampDue("WAIT " + wait, x, 1, 8, 1);
    }

    private static void promise2() {
        holds(2, "Changes a setting; ticks that lamps have left, or to wait, stay as they are.", () -> {
            CoughLamps x = lampsAt(10, 20);
            x.set(CoughLamps.CHAIN, 1);
            x.cough(0);
            x.set(CoughLamps.AWAKE, 1);
            x.set(CoughLamps.WAIT, 1);
            x.set(CoughLamps.CHAIN, 0);
            lampDue("LIT while AWAKE falls", x, 1, 4, 8);
            lampDue("waits while WAIT falls", x, 1, 5, 2);
            lampDue("waits while CHAIN falls", x, 1, 6, 1);
            x.ticks(1);
            x.set(CoughLamps.WAIT, 10);
            lampDue("waits while WAIT rises", x, 1, 5, 1);
            x.ticks(1);
            lampDue("waited two ticks", x, 1, 8, 1);
            x.ticks(6);
            lampDue("was LIT for 8 ticks", x, 1, 2, CoughLamps.DIM_LIT);
            x.set(CoughLamps.DIM, 0);
            lampDue("dim while DIM falls", x, 1, 2, CoughLamps.DIM_LIT);
            lampDue("dim while DIM falls", x, 1, 4, 6);
            x.ticks(5);
            lampDue("dim while DIM falls", x, 1, 4, 1);
            x.set(CoughLamps.DIM, 50);
            x.ticks(1);
            lampDue("was dim for 6 ticks", x, 1, 2, CoughLamps.ASLEEP);
        });
        holds(2, IS_A_CHANGE, () -> {
            for (int setting = 0; setting < 6; setting++) {
                int which = setting;
                isChange("set(" + which + ", 5)", Sentences::busyStreet, x -> x.set(which, 5));
            }
            isChange("set(EYES, 3), as it was", Sentences::busyStreet, x -> x.set(CoughLamps.EYES, 3));
        });
        holds(2, "Returns the previous value;", () -> {
            CoughLamps x = new CoughLamps();
            int[] first = {3, 14, 8, 6, 2, 2};
            for (int setting = 0; setting < 6; setting++) {
                due("set", x.set(setting, 4), first[setting]);
            }
            for (int setting = 0; setting < 6; setting++) {
                due("set again", x.set(setting, 5), 4);
                countDue("set", x, 11 + setting, 5);
            }
            due("set to 0", x.set(CoughLamps.CHAIN, 0), 5);
            due("it was 0", x.set(CoughLamps.CHAIN, 0), 0);
        });
        holds(2, "BAD_VALUE if there is no such setting, or the value is out of its range.", () -> {
            CoughLamps x = new CoughLamps();
            due("set(-1, 5)", x.set(-1, 5), BAD_VALUE);
            due("set(6, 5)", x.set(6, 5), BAD_VALUE);
            due("set(5, 7)", x.set(5, 7), BAD_VALUE);
            due("set(0, 21)", x.set(0, 21), BAD_VALUE);
            due("set(6, -1)", x.set(6, -1), BAD_VALUE);
            for (int wrong : WRONG) {
                due("set(" + wrong + ", 5)", x.set(wrong, 5), BAD_VALUE);
                due("set(4, " + wrong + ")", x.set(4, wrong), BAD_VALUE);
            }
        });
        holds(2, CHANGES_NOTHING, () -> {
            refused("set(-1, 5)", BAD_VALUE, Sentences::busyStreet, x -> x.set(-1, 5));
            refused("set(6, 5)", BAD_VALUE, Sentences::busyStreet, x -> x.set(6, 5));
            refused("set(CHAIN, 7)", BAD_VALUE, Sentences::busyStreet, x -> x.set(CoughLamps.CHAIN, 7));
            refused("set(AWAKE, 0)", BAD_VALUE, Sentences::fullStreet, x -> x.set(CoughLamps.AWAKE, 0));
        });
    }

    // ---- lamps

    private static CoughLamps sixteenLamps() {
        CoughLamps x = new CoughLamps();
        for (int i = 0; i < 16; i++) {
            due("lamp " + i, x.lamp(i, i + 1), i);
        }
        return x;
    }

    private static void promise3() {
        holds(3, "There are up to 16 lamps, each at a step of its own, with a shine (1 to 30).", () -> {
            CoughLamps x = sixteenLamps();
            due("a 17th", x.lamp(50, 1), TOO_MANY);
            countDue("16 lamps", x, 1, 16);
            CoughLamps y = new CoughLamps();
            due("lamp(50, 30)", y.lamp(50, 30), 0);
            due("at the same step", y.lamp(50, 1), NOT_POSSIBLE);
            due("beside it", y.lamp(51, 1), 1);
            due("beside it", y.lamp(49, 1), 2);
            y.house(60);
            y.walker(61, 1);
            due("where a house is", y.lamp(60, 1), 3);
            due("where a walker is", y.lamp(61, 1), 4);
            y.mend(0, CoughLamps.BROKEN);
            due("where a broken one is", y.lamp(50, 1), NOT_POSSIBLE);
        });
        holds(3, "Puts a lamp.", () -> {
            CoughLamps x = lampsAt(3, 7);
            due("lamp(77, 12)", x.lamp(77, 12), 2);
            int[] asNew = {77, 12, 0, 0, 0, NONE, NONE, 0, 0, 0, 0};
            for (int what = 0; what < asNew.length; what++) {
                lampDue("new", x, 2, what, asNew[what]);
            }
            countDue("lamps", x, 1, 3);
        });
        holds(3, IS_A_CHANGE, () -> isChange("lamp(50, 5)", Sentences::busyStreet, x -> x.lamp(50, 5)));
        holds(3, "- `step`: 0 to 99", () -> {
            CoughLamps x = new CoughLamps();
            due("lamp(-1, 1)", x.lamp(-1, 1), BAD_VALUE);
            due("lamp(100, 1)", x.lamp(100, 1), BAD_VALUE);
            due("lamp(0, 1)", x.lamp(0, 1), 0);
            due("lamp(99, 1)", x.lamp(99, 1), 1);
            lampDue("at the first step", x, 0, 0, 0);
            lampDue("at the last step", x, 1, 0, 99);
        });
        holds(3, "- `shine`: 1 to 30", () -> {
            CoughLamps x = new CoughLamps();
            due("lamp(0, 0)", x.lamp(0, 0), BAD_VALUE);
            due("lamp(0, 31)", x.lamp(0, 31), BAD_VALUE);
            due("lamp(0, 1)", x.lamp(0, 1), 0);
            due("lamp(1, 30)", x.lamp(1, 30), 1);
            lampDue("the least shine", x, 0, 1, 1);
            lampDue("the greatest shine", x, 1, 1, 30);
        });
        holds(3, "Returns its number; BAD_VALUE if an argument is out of range;", () -> {
            CoughLamps x = new CoughLamps();
            due("the first", x.lamp(40, 1), 0);
            due("the second", x.lamp(20, 1), 1);
            for (int wrong : WRONG) {
                due("step " + wrong, x.lamp(wrong, 1), BAD_VALUE);
                due("shine " + wrong, x.lamp(30, wrong), BAD_VALUE);
                due("both " + wrong, x.lamp(wrong, wrong), BAD_VALUE);
            }
            due("the third", x.lamp(30, 1), 2);
        });
        holds(3, "TOO_MANY if there are 16 lamps;", () -> {
            CoughLamps x = sixteenLamps();
            due("a 17th", x.lamp(16, 1), TOO_MANY);
            due("undo()", x.undo(), 5);
            due("15 lamps again", x.lamp(16, 1), 15);
            due("a 17th", x.lamp(15, 1), TOO_MANY);
        });
        holds(3, "NOT_POSSIBLE if there is a lamp at this step.", () -> {
            CoughLamps x = new CoughLamps();
            for (int i = 0; i < 15; i++) {
                x.lamp(i == 0 ? 99 : i - 1, 1);
            }
            due("where the first is", x.lamp(99, 2), NOT_POSSIBLE);
            due("where the second is", x.lamp(0, 2), NOT_POSSIBLE);
            due("where the last is", x.lamp(13, 2), NOT_POSSIBLE);
            due("where none is", x.lamp(14, 2), 15);
        });
        holds(3, IN_ORDER, () -> {
            CoughLamps x = sixteenLamps();
            due("bad, and too many", x.lamp(100, 1), BAD_VALUE);
            due("bad, too many, and not possible", x.lamp(0, 31), BAD_VALUE);
            due("too many, and not possible", x.lamp(0, 1), TOO_MANY);
            x.undo();
            due("bad, and not possible", x.lamp(0, 0), BAD_VALUE);
            due("not possible", x.lamp(0, 1), NOT_POSSIBLE);
        });
        holds(3, CHANGES_NOTHING, () -> {
            refused("lamp(100, 1)", BAD_VALUE, Sentences::busyStreet, x -> x.lamp(100, 1));
            refused("lamp(1, 31)", BAD_VALUE, Sentences::busyStreet, x -> x.lamp(1, 31));
            refused("lamp(10, 1)", NOT_POSSIBLE, Sentences::busyStreet, x -> x.lamp(10, 1));
            refused("lamp(1, 1)", TOO_MANY, Sentences::fullStreet, x -> x.lamp(1, 1));
        });
    }

    // ---- houses

    private static void promise4() {
        holds(4, "There are up to 8 houses, each at a step.", () -> {
            CoughLamps x = new CoughLamps();
            for (int i = 0; i < 8; i++) {
                due("house(30)", x.house(30), i);
            }
            due("a ninth", x.house(31), TOO_MANY);
            countDue("8 houses", x, 2, 8);
            for (int i = 0; i < 8; i++) {
                houseDue("at one step", x, i, 0, 30);
            }
            CoughLamps y = lampsAt(30);
            due("where a lamp is", y.house(30), 0);
        });
        holds(4, "Builds a house.", () -> {
            CoughLamps x = new CoughLamps();
            due("house(40)", x.house(40), 0);
            houseDue("new", x, 0, 0, 40);
            houseDue("new", x, 0, 1, 0);
            houseDue("new", x, 0, 2, 0);
            countDue("houses", x, 2, 1);
        });
        holds(4, IS_A_CHANGE, () -> isChange("house(50)", Sentences::busyStreet, x -> x.house(50)));
        holds(4, "- `step`: 0 to 99", () -> {
            CoughLamps x = new CoughLamps();
            due("house(-1)", x.house(-1), BAD_VALUE);
            due("house(100)", x.house(100), BAD_VALUE);
            due("house(0)", x.house(0), 0);
            due("house(99)", x.house(99), 1);
            houseDue("at the first step", x, 0, 0, 0);
            houseDue("at the last step", x, 1, 0, 99);
        });
        holds(4, "Returns its number; BAD_VALUE if step is out of range; TOO_MANY if there are 8 houses.", () -> {
            CoughLamps x = new CoughLamps();
            for (int i = 0; i < 8; i++) {
                for (int wrong : WRONG) {
                    due("house(" + wrong + ")", x.house(wrong), BAD_VALUE);
                }
                due("house " + i, x.house(i), i);
            }
            due("a ninth", x.house(8), TOO_MANY);
            due("undo()", x.undo(), 5);
            due("7 houses again", x.house(9), 7);
            due("a ninth", x.house(8), TOO_MANY);
        });
        holds(4, IN_ORDER, () -> {
            CoughLamps x = fullStreet();
            due("bad, and too many", x.house(100), BAD_VALUE);
            due("bad, and too many", x.house(-1), BAD_VALUE);
            due("too many", x.house(0), TOO_MANY);
        });
        holds(4, CHANGES_NOTHING, () -> {
            refused("house(100)", BAD_VALUE, Sentences::busyStreet, x -> x.house(100));
            refused("house(1)", TOO_MANY, Sentences::fullStreet, x -> x.house(1));
        });
    }

    // ---- walkers

    private static void promise5() {
        holds(5, "There are up to 8 walkers.", () -> {
            CoughLamps x = new CoughLamps();
            for (int i = 0; i < 8; i++) {
                due("walker(20, 1)", x.walker(20, 1), i);
            }
            due("a ninth", x.walker(20, 1), TOO_MANY);
            countDue("8 walkers", x, 3, 8);
            countDue("8 walkers", x, 4, 8);
        });
        holds(5, "A walker comes into the street, without a goal.", () -> {
            CoughLamps x = new CoughLamps();
            due("walker(40, 3)", x.walker(40, 3), 0);
            int[] asNew = {40, 3, 0, NONE, 0, NONE, 0, 0, 0};
            for (int what = 0; what < asNew.length; what++) {
                walkerDue("new", x, 0, what, asNew[what]);
            }
            countDue("who came", x, 3, 1);
            countDue("in the street", x, 4, 1);
        });
        holds(5, IS_A_CHANGE, () -> isChange("walker(50, 2)", Sentences::busyStreet, x -> x.walker(50, 2)));
        holds(5, "- `step`: 0 to 99", () -> {
            CoughLamps x = new CoughLamps();
            due("walker(-1, 1)", x.walker(-1, 1), BAD_VALUE);
            due("walker(100, 1)", x.walker(100, 1), BAD_VALUE);
            due("walker(0, 1)", x.walker(0, 1), 0);
            due("walker(99, 1)", x.walker(99, 1), 1);
            walkerDue("at the first step", x, 0, 0, 0);
            walkerDue("at the last step", x, 1, 0, 99);
        });
        holds(5, "- `pace`: 1 to 4", () -> {
            CoughLamps x = new CoughLamps();
            due("walker(0, 0)", x.walker(0, 0), BAD_VALUE);
            due("walker(0, 5)", x.walker(0, 5), BAD_VALUE);
            for (int pace = 1; pace <= 4; pace++) {
                due("walker(0, " + pace + ")", x.walker(0, pace), pace - 1);
                walkerDue("pace " + pace, x, pace - 1, 1, pace);
            }
        });
        holds(5, "Returns the number of the walker; BAD_VALUE if an argument is out of range;", () -> {
            CoughLamps x = new CoughLamps();
            due("the first", x.walker(5, 1), 0);
            for (int wrong : WRONG) {
                due("step " + wrong, x.walker(wrong, 1), BAD_VALUE);
                due("pace " + wrong, x.walker(1, wrong), BAD_VALUE);
            }
            due("the second", x.walker(5, 1), 1);
        });
        holds(5, "TOO_MANY if 8 walkers came.", () -> {
            CoughLamps x = new CoughLamps();
            for (int i = 0; i < 8; i++) {
                due("walker " + i, x.walker(i, 1), i);
                x.goal(i, i, 0);
            }
            x.ticks(1);
            countDue("all are home", x, 4, 0);
            due("8 came, all of them are home", x.walker(0, 1), TOO_MANY);
            x.undo();
            x.undo();
            due("undo() of the last one", x.undo(), 3);
            due("7 came", x.walker(50, 2), 7);
            walkerDue("as new", x, 7, 0, 50);
        });
        holds(5, IN_ORDER, () -> {
            CoughLamps x = fullStreet();
            due("bad step, and too many", x.walker(100, 1), BAD_VALUE);
            due("bad pace, and too many", x.walker(0, 5), BAD_VALUE);
            due("too many", x.walker(0, 4), TOO_MANY);
        });
        holds(5, CHANGES_NOTHING, () -> {
            refused("walker(-1, 1)", BAD_VALUE, Sentences::busyStreet, x -> x.walker(-1, 1));
            refused("walker(1, 0)", BAD_VALUE, Sentences::busyStreet, x -> x.walker(1, 0));
            refused("walker(1, 1)", TOO_MANY, Sentences::fullStreet, x -> x.walker(1, 1));
        });
    }

    // ---- goals

    private static void promise6() {
        holds(6, "Tells a walker one more goal, behind those that are left.", () -> {
            CoughLamps x = new CoughLamps();
            x.walker(10, 4);
            x.goal(0, 14, 0);
            x.goal(0, 10, 1);
            x.goal(0, 12, 0);
            walkerDue("the first goal", x, 0, 3, 14);
            x.ticks(1);
            walkerDue("the second goal", x, 0, 3, 10);
            x.goal(0, 8, 0);
            walkerDue("behind those that are left", x, 0, 3, 10);
            x.ticks(1);
            walkerDue("rests", x, 0, 5, 0);
            x.goal(0, 9, 0);
            walkerDue("rests on", x, 0, 5, 0);
            int[] steps = {10, 12, 8, 9};
            for (int step : steps) {
                x.ticks(1);
                walkerDue("in their order", x, 0, 0, step);
            }
            walkerDue("home", x, 0, 2, 1);
            sixGoals();
        });
        holds(6, IS_A_CHANGE, () -> {
            isChange("goal(0, 50, 1)", Sentences::busyStreet, x -> x.goal(0, 50, 1));
            isChange("goal(1, 90, 0)", Sentences::busyStreet, x -> x.goal(1, 90, 0));
        });
        holds(6, "- `step`: 0 to 99", () -> {
            CoughLamps x = new CoughLamps();
            x.walker(50, 4);
            due("goal(0, -1, 0)", x.goal(0, -1, 0), BAD_VALUE);
            due("goal(0, 100, 0)", x.goal(0, 100, 0), BAD_VALUE);
            due("goal(0, 0, 1)", x.goal(0, 0, 1), 1);
            due("goal(0, 99, 0)", x.goal(0, 99, 0), 2);
            x.ticks(13);
            walkerDue("at the first step", x, 0, 0, 0);
            walkerDue("at the first step", x, 0, 5, 0);
            x.ticks(25);
            walkerDue("ahead of the last step", x, 0, 0, 96);
            x.ticks(1);
            walkerDue("at the last step", x, 0, 0, 99);
            walkerDue("home", x, 0, 2, 1);
            walkerDue("steps", x, 0, 8, 149);
        });
        holds(6, "Returns how many goals are left then;", () -> {
            CoughLamps x = new CoughLamps();
            x.walker(10, 1);
            for (int i = 1; i <= 4; i++) {
                due("goal " + i, x.goal(0, 10, 0), i);
            }
            x.ticks(1);
            due("one is done", x.goal(0, 10, 0), 4);
            x.ticks(3);
            due("three more are done", x.goal(0, 10, 0), 2);
        });
        holds(6, "NO_SUCH if there is no such walker; BAD_VALUE if step or pause is out of range;", () -> {
            CoughLamps x = new CoughLamps();
            due("without walkers", x.goal(0, 0, 0), NO_SUCH);
            x.walker(0, 1);
            x.walker(0, 1);
            due("goal(-1, 0, 0)", x.goal(-1, 0, 0), NO_SUCH);
            due("goal(2, 0, 0)", x.goal(2, 0, 0), NO_SUCH);
            due("goal(1, 0, 0)", x.goal(1, 0, 0), 1);
            due("goal(0, 0, -1)", x.goal(0, 0, -1), BAD_VALUE);
            due("goal(0, 0, 21)", x.goal(0, 0, 21), BAD_VALUE);
            due("goal(0, 0, 20)", x.goal(0, 0, 20), 1);
            for (int wrong : WRONG) {
                due("walker " + wrong, x.goal(wrong, 0, 0), NO_SUCH);
                due("step " + wrong, x.goal(0, wrong, 0), BAD_VALUE);
                due("pause " + wrong, x.goal(0, 0, wrong), BAD_VALUE);
            }
            due("the eighth in a full street", fullStreet().goal(8, 0, 0), NO_SUCH);
        });
    }

    /** Each of six goals keeps its own step and pause, while those ahead of it are done and others come behind it. */
    private static void sixGoals() {
        CoughLamps x = new CoughLamps();
        x.walker(50, 4);
        for (int goal = 1; goal <= 6; goal++) {
            x.goal(0, 50 + goal, goal);
        }
        for (int goal = 1; goal <= 12; goal++) {
            walkerDue("goal " + goal, x, 0, 3, 50 + goal);
            x.ticks(goal);
            walkerDue("rests at goal " + goal, x, 0, 5, goal - 1);
            x.ticks(1);
            walkerDue("goal " + goal + " is done", x, 0, 4, goal <= 6 ? 5 : 12 - goal);
            if (goal <= 6) {
                due("one more", x.goal(0, 56 + goal, 6 + goal), 6);
            }
        }
        walkerDue("home", x, 0, 2, 1);
    }

    private static void goalsAtTheirBound() {
        holds(6, "- `pause`: 0 to 20", () -> {
            CoughLamps x = new CoughLamps();
            x.walker(50, 1);
            due("goal(0, 50, -1)", x.goal(0, 50, -1), BAD_VALUE);
            due("goal(0, 50, 21)", x.goal(0, 50, 21), BAD_VALUE);
            due("goal(0, 50, 0)", x.goal(0, 50, 0), 1);
            due("goal(0, 50, 20)", x.goal(0, 50, 20), 2);
            x.ticks(1);
            walkerDue("no pause", x, 0, 4, 1);
            x.ticks(1);
            walkerDue("the longest pause begins", x, 0, 5, 0);
            x.ticks(19);
            walkerDue("the longest pause", x, 0, 5, 19);
            walkerDue("the longest pause", x, 0, 2, 0);
            x.ticks(1);
            walkerDue("the longest pause is over", x, 0, 2, 1);
        });
        holds(6, "TOO_MANY if 6 goals are left;", () -> {
            CoughLamps x = new CoughLamps();
            x.walker(0, 1);
            x.walker(0, 1);
            for (int i = 1; i <= 6; i++) {
                due("goal " + i, x.goal(0, i, 0), i);
            }
            due("a seventh", x.goal(0, 9, 0), TOO_MANY);
            due("of the other walker", x.goal(1, 9, 0), 1);
            x.ticks(1);
            due("5 are left", x.goal(0, 9, 0), 6);
            due("a seventh", x.goal(0, 9, 0), TOO_MANY);
            for (int i = 2; i <= 6; i++) {
                walkerDue("the goals stay", x, 0, 3, i);
                x.ticks(1);
            }
            walkerDue("the goals stay", x, 0, 3, 9);
            x.ticks(2);
            walkerDue("not home", x, 0, 2, 0);
            x.ticks(1);
            walkerDue("home", x, 0, 2, 1);
        });
        holds(6, "NOT_POSSIBLE if the walker is home.", () -> {
            CoughLamps x = new CoughLamps();
            x.walker(0, 1);
            x.goal(0, 1, 0);
            due("on the way", x.goal(0, 0, 0), 2);
            x.ticks(2);
            due("home", x.goal(0, 5, 0), NOT_POSSIBLE);
            x.ticks(5);
            due("home for ever", x.goal(0, 5, 0), NOT_POSSIBLE);
            walkerDue("home for ever", x, 0, 4, 0);
        });
        holds(6, IN_ORDER, () -> {
            CoughLamps x = fullStreet();
            due("no such, and bad", x.goal(8, 100, 21), NO_SUCH);
            due("bad step, and too many", x.goal(0, 100, 0), BAD_VALUE);
            due("bad pause, and too many", x.goal(7, 0, 21), BAD_VALUE);
            due("too many", x.goal(7, 0, 20), TOO_MANY);
            CoughLamps y = homeStreet();
            due("bad step, and home", y.goal(0, -1, 0), BAD_VALUE);
            due("bad pause, and home", y.goal(0, 0, -1), BAD_VALUE);
            due("home", y.goal(0, 0, 0), NOT_POSSIBLE);
        });
        holds(6, CHANGES_NOTHING, () -> {
            refused("goal(2, 1, 1)", NO_SUCH, Sentences::busyStreet, x -> x.goal(2, 1, 1));
            refused("goal(0, 100, 1)", BAD_VALUE, Sentences::busyStreet, x -> x.goal(0, 100, 1));
            refused("goal(1, 1, 21)", BAD_VALUE, Sentences::busyStreet, x -> x.goal(1, 1, 21));
            refused("goal(7, 1, 1)", TOO_MANY, Sentences::fullStreet, x -> x.goal(7, 1, 1));
            refused("goal(0, 1, 1)", NOT_POSSIBLE, SentencesOfSettingUp::homeStreet, x -> x.goal(0, 1, 1));
        });
    }

    private static CoughLamps homeStreet() {
        CoughLamps x = lampsAt(10);
        x.walker(10, 1);
        x.goal(0, 12, 0);
        x.ticks(2);
        return x;
    }

    // ---- mending

    private static CoughLamps waitingLamps() {
        CoughLamps x = lampsAt(10, 20, 30);
        x.cough(0);
        x.ticks(1);
        return x;
    }

    private static void promise7() {
        holds(7, "Mends or spoils a lamp. One that becomes BROKEN is ASLEEP, and does not wait any more;", () -> {
            CoughLamps x = waitingLamps();
            lampDue("LIT", x, 1, 2, CoughLamps.LIT);
            due("mend(1, BROKEN)", x.mend(1, CoughLamps.BROKEN), CoughLamps.WELL);
            int[] broken = {20, 5, CoughLamps.ASLEEP, CoughLamps.BROKEN, 0, NONE, NONE, 4, 0, 1, 0};
            for (int what = 0; what < broken.length; what++) {
                lampDue("broken", x, 1, what, broken[what]);
            }
            x.ticks(3);
            lampDue("never coughs", x, 1, 8, 0);
            x.mend(1, CoughLamps.WELL);
            lampDue("well again, but as it is", x, 1, 2, CoughLamps.ASLEEP);
            lampDue("well again, but as it is", x, 1, 5, NONE);
            CoughLamps y = lampsAt(10, 20);
            y.set(CoughLamps.CHAIN, 0);
            y.cough(0);
            y.ticks(8);
            lampDue("DIM_LIT", y, 1, 2, CoughLamps.DIM_LIT);
            y.mend(1, CoughLamps.BROKEN);
            lampDue("broken while DIM_LIT", y, 1, 2, CoughLamps.ASLEEP);
            lampDue("broken while DIM_LIT", y, 1, 4, 0);
        });
        holds(7, "otherwise it goes on as it is.", () -> {
            for (int how = CoughLamps.WELL; how <= CoughLamps.BLIND; how++) {
                CoughLamps x = waitingLamps();
                x.mend(1, how);
                lampDue("goes on", x, 1, 2, CoughLamps.LIT);
                lampDue("goes on", x, 1, 4, 7);
                lampDue("goes on", x, 1, 5, 1);
                lampDue("goes on", x, 1, 6, 1);
                x.ticks(1);
                lampDue("coughs in its turn", x, 1, 8, 1);
            }
        });
        holds(7, IS_A_CHANGE, () -> {
            for (int how = 0; how <= 2; how++) {
                int toBe = how;
                isChange("mend(1, " + toBe + ")", Sentences::busyStreet, x -> x.mend(1, toBe));
            }
        });
        holds(7, "- `how`: WELL to BROKEN", () -> {
            CoughLamps x = lampsAt(10);
            due("mend(0, -1)", x.mend(0, -1), BAD_VALUE);
            due("mend(0, 3)", x.mend(0, 3), BAD_VALUE);
            for (int how = 2; how >= 0; how--) {
                x.mend(0, how);
                lampDue("how it is", x, 0, 3, how);
            }
        });
        holds(7, "Returns how it was;", () -> {
            CoughLamps x = lampsAt(10);
            int was = CoughLamps.WELL;
            for (int how : new int[] {0, 1, 1, 2, 2, 0, 2, 1, 0}) {
                due("mend(0, " + how + ")", x.mend(0, how), was);
                was = how;
            }
        });
        holds(7, "NO_SUCH if there is no such lamp; BAD_VALUE if how is out of range.", () -> {
            CoughLamps x = lampsAt(10, 20);
            due("mend(-1, 0)", x.mend(-1, 0), NO_SUCH);
            due("mend(2, 0)", x.mend(2, 0), NO_SUCH);
            due("mend(1, 0)", x.mend(1, 0), 0);
            due("mend(16, 0) of 16", fullStreet().mend(16, 0), NO_SUCH);
            due("mend(15, 0) of 16", fullStreet().mend(15, 0), 0);
            for (int wrong : WRONG) {
                due("lamp " + wrong, x.mend(wrong, 0), NO_SUCH);
                due("how " + wrong, x.mend(0, wrong), BAD_VALUE);
            }
        });
        holds(7, IN_ORDER, () -> {
            CoughLamps x = lampsAt(10);
            due("no such, and bad", x.mend(1, 3), NO_SUCH);
            due("no such, and bad", x.mend(-1, -1), NO_SUCH);
            due("bad", x.mend(0, 3), BAD_VALUE);
        });
        holds(7, CHANGES_NOTHING, () -> {
            refused("mend(3, 2)", NO_SUCH, Sentences::busyStreet, x -> x.mend(3, 2));
            refused("mend(0, 3)", BAD_VALUE, Sentences::busyStreet, x -> x.mend(0, 3));
            refused("mend(16, 2)", NO_SUCH, Sentences::fullStreet, x -> x.mend(16, 2));
        });
        holds(7, "and is WELL (0, at first), BLIND (1: it sees nobody) or BROKEN (2: it sees nobody, hears nothing, and is always ASLEEP).",
                SentencesOfSettingUp::wellBlindAndBroken);
    }

    private static void wellBlindAndBroken() {
        for (int how = 0; how <= 2; how++) {
            CoughLamps x = lampsAt(10, 40);
            lampDue("at first", x, 0, 3, CoughLamps.WELL);
            x.mend(0, how);
            x.walker(10, 1);
            x.ticks(1);
            lampDue("sees only if it is WELL", x, 0, 2, how == CoughLamps.WELL ? CoughLamps.LIT : CoughLamps.ASLEEP);
            lampDue("sees only if it is WELL", x, 0, 8, how == CoughLamps.WELL ? 1 : 0);
            CoughLamps y = lampsAt(10, 24);
            y.mend(0, how);
            due("hears if it is not BROKEN", y.cough(1), how == CoughLamps.BROKEN ? 0 : 1);
            lampDue("hears if it is not BROKEN", y, 0, 9, how == CoughLamps.BROKEN ? 0 : 1);
            lampDue("hears if it is not BROKEN", y, 0, 2, how == CoughLamps.BROKEN ? CoughLamps.ASLEEP : CoughLamps.LIT);
        }
        CoughLamps z = lampsAt(10, 20);
        z.mend(0, CoughLamps.BROKEN);
        z.walker(10, 1);
        z.walker(20, 1);
        for (int tick = 0; tick < 40; tick++) {
            z.ticks(1);
            lampDue("always ASLEEP", z, 0, 2, CoughLamps.ASLEEP);
        }
        lampDue("hears nothing", z, 0, 9, 0);
        lampDue("uses no light", z, 0, 7, 0);
    }

    // ---- coughs by order

    private static void promise8() {
        holds(8, "A lamp is made to cough, with the rank 0.", () -> {
            CoughLamps x = lampsAt(10, 20);
            due("cough(0)", x.cough(0), 1);
            lampDue("coughed", x, 0, 8, 1);
            lampDue("is not lit by its own cough", x, 0, 2, CoughLamps.ASLEEP);
            lampDue("does not hear itself", x, 0, 9, 0);
            lampDue("will cough with the rank 0 and 1", x, 1, 6, 1);
            CoughLamps y = lampsAt(10, 20);
            y.set(CoughLamps.CHAIN, 1);
            y.cough(0);
            lampDue("0 is less than 1", y, 1, 6, 1);
            CoughLamps z = lampsAt(10, 20);
            z.set(CoughLamps.CHAIN, 0);
            z.cough(0);
            lampDue("0 is not less than 0", z, 1, 6, NONE);
            lampDue("LIT all the same", z, 1, 2, CoughLamps.LIT);
        });
        holds(8, IS_A_CHANGE, () -> {
            isChange("cough(0)", Sentences::busyStreet, x -> x.cough(0));
            isChange("cough(0) that nobody hears", () -> lampsAt(10), x -> x.cough(0));
        });
        holds(8, "Returns how many lamps hear it;", () -> {
            due("nobody else is there", lampsAt(10).cough(0), 0);
            CoughLamps x = lampsAt(20, 34, 35, 6, 5, 21);
            due("14 steps away, and not 15", x.cough(0), 3);
            x.mend(5, CoughLamps.BLIND);
            due("a blind one", x.cough(0), 3);
            x.mend(5, CoughLamps.BROKEN);
            due("a broken one", x.cough(0), 2);
            CoughLamps y = fullStreet();
            y.set(CoughLamps.REACH, 60);
            due("lamp 0 of 16", y.cough(0), 10);
            due("lamp 7 of 16", y.cough(7), 15);
        });
        holds(8, "NO_SUCH if there is no such lamp; NOT_POSSIBLE if it is BROKEN.", () -> {
            CoughLamps x = lampsAt(10, 20);
            due("cough(-1)", x.cough(-1), NO_SUCH);
            due("cough(2)", x.cough(2), NO_SUCH);
            due("cough(1)", x.cough(1), 1);
            for (int wrong : WRONG) {
                due("lamp " + wrong, x.cough(wrong), NO_SUCH);
            }
            x.mend(1, CoughLamps.BLIND);
            due("BLIND", x.cough(1), 1);
            x.mend(1, CoughLamps.BROKEN);
            due("BROKEN", x.cough(1), NOT_POSSIBLE);
            x.mend(1, CoughLamps.WELL);
            due("WELL again", x.cough(1), 1);
            due("cough(16) of 16", fullStreet().cough(16), NO_SUCH);
            due("cough(15) of 16", fullStreet().cough(15), 2);
        });
        holds(8, CHANGES_NOTHING, () -> {
            refused("cough(3)", NO_SUCH, Sentences::busyStreet, x -> x.cough(3));
            refused("cough(0)", NOT_POSSIBLE, SentencesOfSettingUp::brokenStreet, x -> x.cough(0));
        });
    }

    private static CoughLamps brokenStreet() {
        CoughLamps x = busyStreet();
        x.mend(0, CoughLamps.BROKEN);
        return x;
    }

    private static void coughsByOrder() {
        holds(8, "(This is ahead of the next tick, in which it and those that hear it have neither coughed nor become LIT anew by that.)",
                () -> {
            CoughLamps x = lampsAt(10, 20);
            x.set(CoughLamps.WAIT, 1);
            x.cough(0);
            x.cough(1);
            lampDue("who was made to cough waits", x, 0, 5, 1);
            lampDue("who waits is made to cough", x, 1, 5, 1);
            x.ticks(1);
            lampDue("has not coughed by that in the tick", x, 0, 8, 2);
            lampDue("has not coughed by that in the tick", x, 1, 8, 2);
            CoughLamps y = lampsAt(10, 20);
            y.set(CoughLamps.CHAIN, 0);
            y.set(CoughLamps.AWAKE, 1);
            y.cough(0);
            y.ticks(1);
            lampDue("has not become LIT anew by that in the tick", y, 1, 2, CoughLamps.DIM_LIT);
            CoughLamps z = lampsAt(10, 20);
            z.set(CoughLamps.WAIT, 1);
            z.cough(0);
            z.ticks(1);
            lampDue("lamp 1 coughed in this tick, and lamp 0 waits", z, 0, 5, 1);
            z.cough(0);
            lampDue("the next tick is another one", z, 1, 5, 1);
            z.ticks(1);
            lampDue("lamp 0 coughed in its turn", z, 0, 8, 3);
            lampDue("lamp 1 coughed in its turn", z, 1, 8, 2);
        });
    }
}
