/** What the document says about what would be, if nothing else is done: promises 16 to 19. */
final class SentencesOfWhatIf extends Sentences {
    private static final String NOTHING_CHANGES = "Ahead of the calls `homeIn`, `brings`, `bestReach`, `needless` the interface says: "
            + "---- what if, if nothing else is done; nothing changes.";
    private static final int ALL_LAMPS = 65535;

    private SentencesOfWhatIf() {
    }

    static void all() {
        homeIn();
        homeInAtItsBound();
        brings();
        bringsAtItsBound();
        bestReach();
        bestReachAtItsBound();
        needless();
        needlessFor100Ticks();
    }

    // ---- homeIn

    private static void homeIn() {
        holds(16, "Tells after how many ticks a walker is home.", () -> {
            for (int pace = 1; pace <= 4; pace++) {
                CoughLamps x = new CoughLamps();
                x.walker(20, pace);
                x.goal(0, 29, 0);
                due("9 steps, pace " + pace, x.homeIn(0), (9 + pace - 1) / pace);
                x.goal(0, 29, 20);
                due("and a pause of 20, pace " + pace, x.homeIn(0), (9 + pace - 1) / pace + 21);
            }
            CoughLamps y = new CoughLamps();
            y.walker(20, 1);
            y.goal(0, 20, 0);
            due("a goal where the walker is", y.homeIn(0), 1);
            y.goal(0, 21, 1);
            due("one more, with a pause of 1", y.homeIn(0), 3);
            for (int ticks = 2; ticks >= 0; ticks--) {
                y.ticks(1);
                due("a tick later", y.homeIn(0), ticks);
                walkerDue("a tick later", y, 0, 2, ticks == 0 ? 1 : 0);
            }
        });
        holds(16, "Returns how many ticks (0 if home now);", () -> {
            CoughLamps x = new CoughLamps();
            x.walker(20, 4);
            x.goal(0, 20, 0);
            x.ticks(1);
            due("home now", x.homeIn(0), 0);
            x.ticks(200);
            due("home for ever", x.homeIn(0), 0);
        });
        holds(16, "NO_SUCH if there is no such walker;", () -> {
            due("without walkers", new CoughLamps().homeIn(0), NO_SUCH);
            CoughLamps x = fullStreet();
            due("homeIn(-1)", x.homeIn(-1), NO_SUCH);
            due("homeIn(8) of 8", x.homeIn(8), NO_SUCH);
            for (int walker = 0; walker < 8; walker++) {
                due("homeIn(" + walker + ")", x.homeIn(walker), 33);
            }
            for (int wrong : WRONG) {
                due("homeIn(" + wrong + ")", x.homeIn(wrong), NO_SUCH);
            }
        });
        holds(16, CHANGES_NOTHING, () -> refused("homeIn(2)", NO_SUCH, Sentences::busyStreet, x -> x.homeIn(2)));
        holds(16, NOTHING_CHANGES, () -> {
            changesNothing("homeIn(0)", Sentences::busyStreet, x -> x.homeIn(0));
            changesNothing("homeIn(1)", Sentences::busyStreet, x -> x.homeIn(1));
            changesNothing("homeIn(7)", Sentences::fullStreet, x -> x.homeIn(7));
        });
    }

    /** A walker who is five times at an end of the street, after 99 ticks each, and then goes some steps more. */
    private static CoughLamps home495AndMore(int more) {
        CoughLamps x = new CoughLamps();
        x.walker(0, 1);
        for (int i = 0; i < 5; i++) {
            x.goal(0, i % 2 == 0 ? 99 : 0, 0);
        }
        x.goal(0, 99 - more, 0);
        return x;
    }

    private static void homeInAtItsBound() {
        holds(16, "NONE if it is not so within 500 ticks.", () -> {
            CoughLamps x = home495AndMore(4);
            due("499 ticks", x.homeIn(0), 499);
            CoughLamps y = home495AndMore(5);
            due("500 ticks", y.homeIn(0), 500);
            y.ticks(200);
            due("300 ticks", y.homeIn(0), 300);
            y.ticks(200);
            y.ticks(99);
            due("1 tick", y.homeIn(0), 1);
            y.ticks(1);
            due("home now", y.homeIn(0), 0);
            CoughLamps z = home495AndMore(6);
            due("501 ticks", z.homeIn(0), NONE);
            z.ticks(1);
            due("500 ticks", z.homeIn(0), 500);
            CoughLamps longest = new CoughLamps();
            longest.walker(0, 1);
            for (int i = 0; i < 6; i++) {
                longest.goal(0, i % 2 == 0 ? 99 : 0, 20);
            }
            due("720 ticks", longest.homeIn(0), NONE);
            CoughLamps stays = new CoughLamps();
            stays.walker(0, 4);
            due("never had a goal", stays.homeIn(0), NONE);
            stays.walker(0, 4);
            stays.goal(1, 4, 0);
            due("never had a goal", stays.homeIn(0), NONE);
            due("one tick", stays.homeIn(1), 1);
        });
    }

    // ---- brings

    /** Two lamps, two houses, one walker who passes and two who stay; some of all that is counted has been already. */
    private static CoughLamps nightStreet() {
        CoughLamps x = new CoughLamps();
        x.lamp(20, 9);
        x.lamp(30, 9);
        x.lamp(33, 3);
        x.house(23);
        x.house(34);
        x.walker(0, 2);
        x.goal(0, 40, 2);
        x.goal(0, 99, 0);
        x.walker(60, 1);
        x.walker(38, 1);
        x.cough(1);
        x.ticks(3);
        return x;
    }

    /** What so many ticks bring in fact, told by the totals. */
    private static int brought(CoughLamps x, int ticks, int what) {
        int[] totals = {8, 7, 9, 10};
        int before = x.count(totals[what]);
        x.ticks(ticks);
        return x.count(totals[what]) - before;
    }

    private static void brings() {
        holds(17, "Tells what so many ticks would bring.", () -> {
            for (int ticks : new int[] {1, 2, 10, 60, 200}) {
                for (int what = 0; what < 4; what++) {
                    due("brings(" + ticks + ", " + what + ")", nightStreet().brings(ticks, what), brought(nightStreet(), ticks, what));
                }
            }
        });
        holds(17, "- `what`: 0 dark ticks,", () -> {
            CoughLamps x = lampsAt(10, 90);
            x.walker(50, 1);
            x.walker(60, 1);
            x.walker(90, 1);
            due("two walkers, 7 ticks", x.brings(7, 0), 14);
            due("two walkers, one tick", x.brings(1, 0), 2);
        });
        holds(17, "1 units of light,", () -> {
            CoughLamps x = lampsAt(10, 20);
            x.set(CoughLamps.CHAIN, 0);
            x.cough(0);
            due("LIT for 7 ticks", x.brings(7, 1), 28);
            due("and DIM_LIT for one", x.brings(8, 1), 29);
            due("and DIM_LIT for 6", x.brings(200, 1), 34);
        });
        holds(17, "2 disturbed ticks,", () -> {
            CoughLamps x = lampsAt(10, 20);
            x.set(CoughLamps.CHAIN, 0);
            x.house(19);
            x.house(21);
            x.house(22);
            x.cough(0);
            due("two sleepers, one tick", x.brings(1, 2), 2);
            due("two sleepers, 7 ticks", x.brings(200, 2), 14);
        });
        holds(17, "3 coughs,", () -> {
            CoughLamps x = lampsAt(10, 20);
            x.cough(0);
            due("none", x.brings(1, 3), 0);
            due("one", x.brings(2, 3), 1);
            due("one", x.brings(3, 3), 1);
            due("two", x.brings(4, 3), 2);
            due("not more", x.brings(200, 3), 2);
        });
        holds(17, "all of these ticks alone", () -> {
            CoughLamps x = lampsAt(10, 20);
            x.house(20);
            x.walker(50, 1);
            x.cough(0);
            x.ticks(50);
            int[] so = {8, 7, 9, 10};
            for (int what = 0; what < 4; what++) {
                Check.holds("there was some of " + what, x.count(so[what]) > 0);
                due("brings(5, " + what + ")", x.brings(5, what), what == 0 ? 5 : 0);
            }
            x.goal(0, 50, 0);
            due("home within the first tick", x.brings(5, 0), 0);
        });
    }

    private static void bringsAtItsBound() {
        holds(17, "- `ticks`: 1 to 200", () -> {
            CoughLamps x = new CoughLamps();
            x.walker(0, 1);
            due("brings(0, 0)", x.brings(0, 0), BAD_VALUE);
            due("brings(1, 0)", x.brings(1, 0), 1);
            due("brings(200, 0)", x.brings(200, 0), 200);
            due("brings(201, 0)", x.brings(201, 0), BAD_VALUE);
        });
        holds(17, "Returns the number; BAD_VALUE if an argument is out of range.", () -> {
            CoughLamps x = nightStreet();
            due("brings(1, -1)", x.brings(1, -1), BAD_VALUE);
            due("brings(1, 4)", x.brings(1, 4), BAD_VALUE);
            due("brings(1, 3)", x.brings(1, 3), 1);
            due("brings(0, 4)", x.brings(0, 4), BAD_VALUE);
            for (int wrong : WRONG) {
                due("ticks " + wrong, x.brings(wrong, 0), BAD_VALUE);
                due("what " + wrong, x.brings(1, wrong), BAD_VALUE);
            }
        });
        holds(17, CHANGES_NOTHING, () -> {
            refused("brings(0, 0)", BAD_VALUE, Sentences::busyStreet, x -> x.brings(0, 0));
            refused("brings(201, 0)", BAD_VALUE, Sentences::busyStreet, x -> x.brings(201, 0));
            refused("brings(1, 4)", BAD_VALUE, Sentences::busyStreet, x -> x.brings(1, 4));
        });
        holds(17, NOTHING_CHANGES, () -> {
            for (int i = 0; i < 4; i++) {
                int what = i;
                changesNothing("brings(1, " + what + ")", Sentences::busyStreet, x -> x.brings(1, what));
                changesNothing("brings(200, " + what + ")", Sentences::busyStreet, x -> x.brings(200, what));
            }
            changesNothing("brings(200, 3)", Sentences::fullStreet, x -> x.brings(200, 3));
        });
    }

    // ---- bestReach

    /** A walker whom lamp 0 sees, and one whose step only lamp 1 can light, which is blind: lamp 0's cough must reach it. */
    private static CoughLamps blindLampAway(int away) {
        CoughLamps x = lampsAt(10, 10 + away);
        x.mend(1, CoughLamps.BLIND);
        x.walker(10, 1);
        x.walker(10 + away + 5, 1);
        return x;
    }

    /**
     * Lamp 5, which is blind and alone lights a walker's step, hears lamp 4 with a reach of 5 or more: this makes for
     * the fewest dark ticks. A walker passes lamp 0 and then lamp 1, and is always in lamp 0's light. With 5 to 9, lamp 1
     * coughs for this walker, and lamps 2 and 3 hear it; with 10 to 13, lamp 0's cough has made lamp 1 LIT ahead, so that
     * it does not cough, and less light is used.
     */
    private static CoughLamps lessLightByMoreReach() {
        CoughLamps x = new CoughLamps();
        x.lamp(20, 10);
        for (int step : new int[] {30, 34, 35, 70, 75}) {
            x.lamp(step, 5);
        }
        x.set(CoughLamps.CHAIN, 0);
        x.set(CoughLamps.EYES, 1);
        x.mend(2, CoughLamps.BLIND);
        x.mend(3, CoughLamps.BLIND);
        x.mend(5, CoughLamps.BLIND);
        x.walker(16, 3);
        x.goal(0, 29, 1);
        x.walker(70, 1);
        x.walker(80, 1);
        return x;
    }

    /** The rule, tried out: each reach is set, and what it brings is asked for. */
    private static int bestByTrying(CoughLamps x, int ticks) {
        int best = 0;
        int fewestDark = 0;
        int leastLight = 0;
        for (int reach = 1; reach <= 60; reach++) {
            x.set(CoughLamps.REACH, reach);
            int dark = x.brings(ticks, 0);
            int light = x.brings(ticks, 1);
            if (best == 0 || dark < fewestDark || dark == fewestDark && light < leastLight) {
                best = reach;
                fewestDark = dark;
                leastLight = light;
            }
        }
        return best;
    }

    private static void bestReach() {
        holds(18, "Finds the setting REACH, 1 to 60, with which so many ticks would bring the fewest dark ticks;", () -> {
            for (int away : new int[] {1, 2, 14, 15, 59, 60}) {
                due(away + " steps away", blindLampAway(away).bestReach(1), away);
            }
            due("61 steps away is out of reach", blindLampAway(61).bestReach(1), 1);
            CoughLamps y = blindLampAway(40);
            for (int reach : new int[] {1, 39, 40, 60}) {
                y.set(CoughLamps.REACH, reach);
                due("REACH as it is does not matter", y.bestReach(1), 40);
            }
            due("as by trying", bestByTrying(nightStreet(), 60), nightStreet().bestReach(60));
        });
        holds(18, "of several those with the fewest units of light,", () -> {
            CoughLamps x = lampsAt(10, 20);
            x.walker(10, 1);
            due("light for nobody", x.bestReach(10), 1);
            due("less light by more reach", lessLightByMoreReach().bestReach(10), 10);
            due("as by trying", bestByTrying(lessLightByMoreReach(), 10), 10);
            CoughLamps y = lessLightByMoreReach();
            y.set(CoughLamps.REACH, 5);
            CoughLamps z = lessLightByMoreReach();
            z.set(CoughLamps.REACH, 10);
            due("dark ticks with 5 and 10", y.brings(10, 0), z.brings(10, 0));
            Check.holds("less light with 10", y.brings(10, 1) > z.brings(10, 1));
        });
        holds(18, "of these the least one.", () -> {
            due("without lamps", new CoughLamps().bestReach(200), 1);
            due("one lamp", lampsAt(50).bestReach(200), 1);
            CoughLamps x = lessLightByMoreReach();
            x.set(CoughLamps.REACH, 10);
            CoughLamps y = lessLightByMoreReach();
            y.set(CoughLamps.REACH, 13);
            due("dark ticks with 10 and 13", x.brings(10, 0), y.brings(10, 0));
            due("light with 10 and 13", x.brings(10, 1), y.brings(10, 1));
            due("the least one", x.bestReach(10), 10);
            due("the least one", y.bestReach(10), 10);
        });
    }

    private static void bestReachAtItsBound() {
        holds(18, "- `ticks`: 1 to 200", () -> {
            CoughLamps x = blindLampAway(33);
            due("bestReach(0)", x.bestReach(0), BAD_VALUE);
            due("bestReach(201)", x.bestReach(201), BAD_VALUE);
            due("bestReach(1)", x.bestReach(1), 33);
            due("bestReach(200)", lateWalker(200).bestReach(200), 30);
            due("one tick too late", lateWalker(201).bestReach(200), 1);
            due("a tick later", lateWalker(2).bestReach(1), 1);
            due("in time", lateWalker(2).bestReach(2), 30);
        });
        holds(18, "Returns the setting; BAD_VALUE if ticks is out of range.", () -> {
            CoughLamps x = nightStreet();
            for (int wrong : WRONG) {
                due("bestReach(" + wrong + ")", x.bestReach(wrong), BAD_VALUE);
            }
            Check.holds("a setting", x.bestReach(1) >= 1 && x.bestReach(1) <= 60);
        });
        holds(18, CHANGES_NOTHING, () -> {
            refused("bestReach(0)", BAD_VALUE, Sentences::busyStreet, x -> x.bestReach(0));
            refused("bestReach(201)", BAD_VALUE, Sentences::busyStreet, x -> x.bestReach(201));
        });
        holds(18, NOTHING_CHANGES, () -> {
            changesNothing("bestReach(1)", Sentences::busyStreet, x -> x.bestReach(1));
            changesNothing("bestReach(200)", Sentences::busyStreet, x -> x.bestReach(200));
            changesNothing("bestReach(9)", Sentences::fullStreet, x -> x.bestReach(9));
        });
    }

    /** Lamp 0 first sees a walker in this tick (2 or more); lamp 1 is blind, 30 steps away, and has a walker who stays. */
    private static CoughLamps lateWalker(int tick) {
        CoughLamps x = lampsAt(99, 69);
        x.set(CoughLamps.EYES, 0);
        x.mend(1, CoughLamps.BLIND);
        x.walker(69, 1);
        comeTo99In(x, tick);
        return x;
    }

    /** A walker of pace 1 who rests where the street gives time, and comes to step 99 in this tick, to rest there. */
    private static void comeTo99In(CoughLamps x, int tick) {
        int walker = x.walker(Math.max(0, 99 - tick), 1);
        int early = Math.max(0, tick - 99);
        while (early > 0) {
            int ticks = Math.min(early, 21);
            Check.holds("a goal is told", x.goal(walker, 0, ticks - 1) > 0);
            early -= ticks;
        }
        Check.holds("a goal is told", x.goal(walker, 99, 20) > 0);
    }

    // ---- needless

    private static void needless() {
        holds(19, "Finds the lamps, as a set, each of which could be BROKEN (it alone)", () -> {
            due("without lamps", new CoughLamps().needless(), 0);
            due("nobody in the street", fullOf16Lamps().needless(), ALL_LAMPS);
            CoughLamps x = fullOf16Lamps();
            x.walker(45, 1);
            due("one walker", x.needless(), ALL_LAMPS - (1 << 7));
            x.walker(3, 1);
            due("one walker at the first lamp", x.needless(), ALL_LAMPS - (1 << 7) - 1);
            x.walker(93, 1);
            due("one walker at the last lamp", x.needless(), ALL_LAMPS - (1 << 7) - 1 - (1 << 15));
            CoughLamps y = lampsAt(50, 52);
            y.walker(51, 1);
            due("each alone, but not both", y.needless(), 3);
            y.mend(0, CoughLamps.BROKEN);
            due("one is BROKEN already", y.needless(), 1);
            y.mend(1, CoughLamps.BROKEN);
            due("both are BROKEN already", y.needless(), 3);
            lampDue("it stays as it is", y, 0, 3, CoughLamps.BROKEN);
        });
        holds(19, "no more dark ticks than they would as it is now.", () -> {
            CoughLamps x = lampsAt(50);
            x.walker(50, 1);
            due("100 more", x.needless(), 0);
            x.mend(0, CoughLamps.BLIND);
            due("as many: it is never lit", x.needless(), 1);
            CoughLamps y = lampsAt(50, 60);
            y.mend(1, CoughLamps.BLIND);
            y.walker(50, 1);
            y.walker(60, 1);
            due("the cough of lamp 0 lights lamp 1", y.needless(), 0);
            CoughLamps z = fewerWithoutLamp0();
            due("100 with lamp 0", z.brings(100, 0), 100);
            z.mend(0, CoughLamps.BROKEN);
            due("52 without it", z.brings(100, 0), 52);
            due("fewer are no more, either", fewerWithoutLamp0().needless(), 1 | 4);
            CoughLamps now = lampsAt(50);
            now.walker(60, 1);
            now.ticks(50);
            now.walker(50, 1);
            due("what was dark so far does not matter", now.needless(), 0);
        });
        holds(19, NOTHING_CHANGES, () -> {
            changesNothing("needless()", Sentences::busyStreet, x -> x.needless());
            changesNothing("needless()", Sentences::fullStreet, x -> x.needless());
            changesNothing("needless()", SentencesOfWhatIf::nightStreet, x -> x.needless());
        });
    }

    private static CoughLamps fullOf16Lamps() {
        CoughLamps x = new CoughLamps();
        for (int i = 0; i < 16; i++) {
            x.lamp(3 + 6 * i, 1);
        }
        x.set(CoughLamps.EYES, 1);
        return x;
    }

    /**
     * Lamp 0's cough makes lamp 1 LIT for so long that it does not cough for the walker who comes; without lamp 0 it
     * does, and lamp 2, which is blind and has a walker, is LIT by that.
     */
    private static CoughLamps fewerWithoutLamp0() {
        CoughLamps x = lampsAt(20, 30, 40);
        x.set(CoughLamps.EYES, 1);
        x.set(CoughLamps.REACH, 10);
        x.set(CoughLamps.CHAIN, 0);
        x.set(CoughLamps.AWAKE, 50);
        x.mend(2, CoughLamps.BLIND);
        x.walker(20, 1);
        x.goal(0, 30, 0);
        x.walker(40, 1);
        return x;
    }

    private static void needlessFor100Ticks() {
        holds(19, "so that the next 100 ticks would bring", () -> {
            for (int tick = 98; tick <= 103; tick++) {
                CoughLamps x = new CoughLamps();
                x.lamp(99, 1);
                x.set(CoughLamps.EYES, 0);
                comeTo99In(x, tick);
                due("lit in the tick " + tick, x.needless(), tick <= 100 ? 0 : 1);
                x.ticks(3);
                due("3 ticks later", x.needless(), 0);
            }
        });
    }
}
