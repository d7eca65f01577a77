/** The document's street, coughs and ticks, and promise 9. */
final class SentencesOfTicks extends Sentences {
    private SentencesOfTicks() {
    }

    static void all() {
        street();
        houses();
        walkers();
        coughs();
        walkersGo();
        lampsWait();
        lampsSee();
        lampsFade();
        tallies();
        promise9();
    }

    /** A LIT lamp of this shine at a step, and none beside it that is lit. */
    private static CoughLamps litAt(int step, int shine) {
        CoughLamps x = new CoughLamps();
        x.lamp(step, shine);
        x.lamp(step < 40 ? step + 60 : step - 40, 1);
        x.set(CoughLamps.REACH, 60);
        x.set(CoughLamps.CHAIN, 0);
        x.set(CoughLamps.AWAKE, 1);
        x.set(CoughLamps.DIM, 50);
        due("cough(1)", x.cough(1), 1);
        lampDue("lit", x, 0, 2, CoughLamps.LIT);
        return x;
    }

    private static void lightDue(String when, CoughLamps x, int least, int most) {
        for (int step = 0; step < 100; step++) {
            due(when + ": lightAt(" + step + ")", x.lightAt(step), step >= least && step <= most ? 1 : 0);
        }
    }

    // ---- the street

    private static void street() {
        holds(9, "The street has 100 steps in a row, 0 to 99.", () -> {
            CoughLamps x = litAt(0, 30);
            lightDue("no ring", x, 0, 30);
            CoughLamps y = litAt(99, 30);
            lightDue("no ring", y, 69, 99);
            CoughLamps z = lampsAt(0, 99, 60);
            z.set(CoughLamps.EYES, 20);
            z.set(CoughLamps.REACH, 60);
            due("the farthest lamps do not hear each other", z.hearers(0), 4);
            z.mend(2, CoughLamps.BROKEN);
            z.walker(21, 1);
            z.walker(78, 1);
            z.walker(34, 1);
            z.ticks(1);
            countDue("21 steps are too far to be seen from either end", z, 10, 0);
            lampDue("the nearest one in a row", z, 0, 10, 1);
            lampDue("the nearest one in a row", z, 1, 10, 0);
            lampDue("the nearest one in a row", z, 2, 10, 2);
        });
        holds(9, "A lamp is ASLEEP (0, at first), DIM_LIT (1) or LIT (2),", () -> {
            CoughLamps x = lampsAt(10, 20);
            x.set(CoughLamps.CHAIN, 0);
            x.set(CoughLamps.AWAKE, 1);
            x.set(CoughLamps.DIM, 1);
            lampDue("at first", x, 1, 2, 0);
            x.ticks(3);
            lampDue("nobody woke it", x, 1, 2, 0);
            x.cough(0);
            lampDue("woken", x, 1, 2, 2);
            x.ticks(1);
            lampDue("then dim", x, 1, 2, 1);
            x.ticks(1);
            lampDue("then asleep", x, 1, 2, 0);
            x.cough(0);
            x.ticks(1);
            x.cough(0);
            lampDue("woken while it is dim", x, 1, 2, 2);
        });
        holds(9, "A LIT lamp lights all steps that are no farther from it than its shine, "
                + "a DIM_LIT one those that are no farther than half of it (rounded down).", () -> {
            for (int shine : new int[] {1, 2, 3, 4, 5, 29, 30}) {
                CoughLamps x = litAt(50, shine);
                lightDue("LIT, shine " + shine, x, 50 - shine, 50 + shine);
                x.ticks(1);
                lampDue("dim", x, 0, 2, CoughLamps.DIM_LIT);
                lightDue("DIM_LIT, shine " + shine, x, 50 - shine / 2, 50 + shine / 2);
                x.ticks(50);
                lampDue("asleep", x, 0, 2, CoughLamps.ASLEEP);
                lightDue("ASLEEP, shine " + shine, x, 1, 0);
            }
        });
    }

    private static void houses() {
        holds(9, "The sleeper of a house is disturbed if some LIT lamp is no farther from the house than a third of its shine (rounded down).",
                () -> {
            for (int shine : new int[] {1, 2, 3, 4, 5, 6, 28, 29, 30}) {
                CoughLamps x = litAt(50, shine);
                int far = shine / 3;
                int[] steps = {50, 50 + far, 50 - far, 51 + far, 49 - far};
                for (int i = 0; i < steps.length; i++) {
                    x.house(steps[i]);
                    houseDue("shine " + shine + ", at " + steps[i], x, i, 1, i < 3 ? 1 : 0);
                }
                x.ticks(1);
                for (int i = 0; i < steps.length; i++) {
                    houseDue("DIM_LIT, shine " + shine, x, i, 1, 0);
                }
            }
            CoughLamps y = new CoughLamps();
            y.lamp(50, 9);
            y.lamp(56, 9);
            y.lamp(80, 9);
            y.house(53);
            y.set(CoughLamps.REACH, 24);
            y.set(CoughLamps.CHAIN, 0);
            houseDue("none is LIT", y, 0, 1, 0);
            y.cough(2);
            houseDue("one of two is LIT", y, 0, 1, 1);
            y.cough(0);
            y.cough(1);
            houseDue("all are LIT", y, 0, 1, 1);
        });
    }

    private static void walkers() {
        holds(9, "A walker is at a step, has a pace (1 to 4 steps in a tick), and goals, which are gone to one after the other, "
                + "each with a pause (0 to 20 ticks).", () -> {
            for (int pace = 1; pace <= 4; pace++) {
                CoughLamps x = new CoughLamps();
                x.walker(40, pace);
                x.goal(0, 99, 0);
                x.ticks(1);
                walkerDue("pace " + pace, x, 0, 0, 40 + pace);
                x.ticks(9);
                walkerDue("pace " + pace, x, 0, 0, 40 + 10 * pace);
                walkerDue("pace " + pace, x, 0, 8, 10 * pace);
            }
            for (int pause : new int[] {0, 1, 2, 19, 20}) {
                CoughLamps x = new CoughLamps();
                x.walker(40, 1);
                x.goal(0, 41, pause);
                x.goal(0, 40, 0);
                x.ticks(1);
                walkerDue("pause " + pause, x, 0, 5, pause == 0 ? NONE : 0);
                walkerDue("pause " + pause, x, 0, 4, pause == 0 ? 1 : 2);
                pass(x, pause - 1);
                walkerDue("pause " + pause, x, 0, 4, pause == 0 ? 1 : 2);
                pass(x, pause > 0 ? 1 : 0);
                walkerDue("the pause is over", x, 0, 5, NONE);
                walkerDue("the pause is over", x, 0, 4, 1);
                walkerDue("the pause is over", x, 0, 0, 41);
                x.ticks(1);
                walkerDue("home", x, 0, 2, 1);
            }
        });
        holds(9, "A walker without a goal who never had one stays where this walker is.", () -> {
            CoughLamps x = new CoughLamps();
            x.walker(0, 4);
            x.walker(99, 4);
            x.ticks(200);
            for (int i = 0; i < 2; i++) {
                walkerDue("stays", x, i, 0, 99 * i);
                walkerDue("stays", x, i, 2, 0);
                walkerDue("stays", x, i, 6, 200);
                walkerDue("stays", x, i, 8, 0);
            }
            countDue("in the street", x, 4, 2);
            due("then a goal", x.goal(0, 4, 0), 1);
            x.ticks(1);
            walkerDue("goes", x, 0, 2, 1);
        });
        holds(9, "One who has no goal left is home, and not in the street any more, for ever.", () -> {
            CoughLamps x = lampsAt(50, 60);
            x.set(CoughLamps.EYES, 0);
            x.walker(52, 2);
            x.goal(0, 50, 0);
            x.ticks(1);
            walkerDue("home", x, 0, 2, 1);
            walkerDue("home", x, 0, 0, 50);
            countDue("came", x, 3, 1);
            countDue("not in the street", x, 4, 0);
            x.ticks(100);
            walkerDue("for ever", x, 0, 2, 1);
            walkerDue("no dark tick at home", x, 0, 6, 0);
            countDue("not seen at home", x, 10, 0);
            lampDue("not to blame", x, 0, 10, 0);
            x.cough(1);
            due("the step is lit", x.lightAt(50), 1);
            walkerDue("not lit at home", x, 0, 7, 0);
            due("no goal more", x.goal(0, 1, 1), NOT_POSSIBLE);
        });
    }

    // ---- coughs

    private static void coughs() {
        holds(9, "A cough has a rank. If a lamp coughs, each other lamp that is not BROKEN, and no farther from it than REACH, hears it, "
                + "in ascending order: it becomes LIT, for AWAKE ticks anew;", () -> {
            CoughLamps x = lampsAt(30, 44, 45, 16, 15, 31, 29);
            x.set(CoughLamps.CHAIN, 0);
            x.mend(5, CoughLamps.BLIND);
            x.mend(6, CoughLamps.BROKEN);
            due("cough(0)", x.cough(0), 3);
            int[] heard = {0, 1, 0, 1, 0, 1, 0};
            for (int i = 0; i < heard.length; i++) {
                lampDue("heard", x, i, 9, heard[i]);
                lampDue("heard", x, i, 2, heard[i] * CoughLamps.LIT);
                lampDue("heard", x, i, 4, heard[i] * 8);
            }
            x.ticks(5);
            lampDue("some ticks later", x, 1, 4, 3);
            x.cough(0);
            lampDue("anew", x, 1, 4, 8);
            x.set(CoughLamps.AWAKE, 2);
            x.cough(0);
            lampDue("anew, though it had more ticks left", x, 1, 4, 2);
            x.ticks(2);
            lampDue("dim", x, 1, 2, CoughLamps.DIM_LIT);
            x.cough(0);
            lampDue("a dim one becomes LIT", x, 1, 2, CoughLamps.LIT);
            lampDue("a dim one becomes LIT", x, 1, 4, 2);
        });
        holds(9, "and if the rank is less than CHAIN, and the lamp neither waits nor has coughed in this tick, it waits from now on: "
                + "it has WAIT ticks to wait, and will cough with the rank and 1.", () -> {
            for (int chain = 1; chain <= 6; chain++) {
                chainOf(chain);
            }
            CoughLamps x = lampsAt(10, 20, 24);
            x.cough(0);
            x.ticks(1);
            x.cough(2);
            lampDue("who waits does not wait anew", x, 1, 5, 1);
            lampDue("who waits keeps the rank", x, 1, 6, 1);
            lampDue("who waits becomes LIT anew", x, 1, 4, 8);
            x.ticks(1);
            lampDue("has coughed in this tick", x, 1, 5, NONE);
            lampDue("has coughed in this tick", x, 2, 5, NONE);
            lampDue("heard in this tick", x, 1, 9, 3);
        });
    }

    /** Two lamps that wake each other: the rank rises by 1 with each cough, up to CHAIN. */
    private static void chainOf(int chain) {
        CoughLamps x = lampsAt(10, 20);
        x.set(CoughLamps.WAIT, 3);
        x.set(CoughLamps.CHAIN, chain);
        x.cough(0);
        for (int rank = 1; rank <= chain; rank++) {
            int lamp = rank % 2;
            lampDue("CHAIN " + chain, x, lamp, 5, 3);
            lampDue("CHAIN " + chain, x, lamp, 6, rank);
            lampDue("CHAIN " + chain, x, 1 - lamp, 5, NONE);
            x.ticks(3);
        }
        lampDue("the last rank is not less than CHAIN " + chain, x, 0, 5, NONE);
        lampDue("the last rank is not less than CHAIN " + chain, x, 1, 5, NONE);
        countDue("CHAIN " + chain, x, 10, chain + 1);
    }

    // ---- a tick, 1: the walkers

    private static void walkersGo() {
        holds(9, "Each walker in the street who has a goal, in ascending order: one who rests has rested a tick more, "
                + "and if this is the pause, the goal is done (without a step in this tick).", () -> {
            CoughLamps x = new CoughLamps();
            x.walker(10, 4);
            x.goal(0, 10, 2);
            x.goal(0, 20, 0);
            int[] rested = {0, 1, NONE, NONE};
            int[] goals = {2, 2, 1, 1};
            int[] steps = {10, 10, 10, 14};
            for (int i = 0; i < rested.length; i++) {
                x.ticks(1);
                walkerDue("tick " + i, x, 0, 5, rested[i]);
                walkerDue("tick " + i, x, 0, 4, goals[i]);
                walkerDue("tick " + i, x, 0, 0, steps[i]);
            }
            CoughLamps y = new CoughLamps();
            y.walker(10, 4);
            y.goal(0, 10, 1);
            y.ticks(1);
            walkerDue("a pause of 1 begins", y, 0, 5, 0);
            walkerDue("a pause of 1 begins", y, 0, 2, 0);
            y.ticks(1);
            walkerDue("a pause of 1 is over", y, 0, 2, 1);
            CoughLamps z = fullStreet();
            z.ticks(1);
            for (int i = 0; i < 8; i++) {
                walkerDue("each one", z, i, 5, 3);
            }
        });
        holds(9, "The others go towards the goal by their pace, but not beyond it;", () -> {
            for (int pace = 1; pace <= 4; pace++) {
                for (int away = -6; away <= 6; away++) {
                    CoughLamps x = new CoughLamps();
                    x.walker(50, pace);
                    x.goal(0, 50 + away, 20);
                    x.ticks(1);
                    int way = Math.min(pace, Math.abs(away));
                    walkerDue("pace " + pace + ", " + away + " away", x, 0, 0, away < 0 ? 50 - way : 50 + way);
                    walkerDue("pace " + pace + ", " + away + " away", x, 0, 8, way);
                    walkerDue("pace " + pace + ", " + away + " away", x, 0, 5, Math.abs(away) <= pace ? 0 : NONE);
                }
            }
            CoughLamps y = new CoughLamps();
            y.walker(97, 4);
            y.goal(0, 99, 1);
            y.goal(0, 2, 0);
            y.goal(0, 0, 0);
            y.ticks(1);
            walkerDue("not beyond the last step", y, 0, 0, 99);
            y.ticks(27);
            walkerDue("on the way to the first step", y, 0, 0, 0);
            walkerDue("on the way to the first step", y, 0, 2, 1);
            walkerDue("on the way to the first step", y, 0, 8, 101);
        });
        holds(9, "one who is there then rests from now on (0 ticks so far), if the goal has a pause; otherwise the goal is done.", () -> {
            CoughLamps x = new CoughLamps();
            x.walker(10, 2);
            x.goal(0, 12, 1);
            x.goal(0, 14, 0);
            x.goal(0, 14, 3);
            x.ticks(1);
            walkerDue("there, with a pause", x, 0, 5, 0);
            walkerDue("there, with a pause", x, 0, 3, 12);
            x.ticks(2);
            walkerDue("there, without a pause", x, 0, 5, NONE);
            walkerDue("there, without a pause", x, 0, 4, 1);
            x.ticks(1);
            walkerDue("there already", x, 0, 5, 0);
            walkerDue("there already", x, 0, 8, 4);
        });
        holds(9, "When a goal is done, the next one is gone to from the next tick on; without a next one, the walker is home.", () -> {
            CoughLamps x = new CoughLamps();
            x.walker(10, 4);
            x.goal(0, 11, 0);
            x.goal(0, 11, 0);
            x.goal(0, 9, 1);
            x.ticks(1);
            walkerDue("3 steps are not used", x, 0, 0, 11);
            walkerDue("the next goal", x, 0, 4, 2);
            x.ticks(1);
            walkerDue("a tick for a goal that is near", x, 0, 0, 11);
            walkerDue("a tick for a goal that is near", x, 0, 4, 1);
            x.ticks(1);
            walkerDue("the last goal", x, 0, 0, 9);
            walkerDue("rests, and is not home", x, 0, 2, 0);
            x.ticks(1);
            walkerDue("home", x, 0, 2, 1);
            walkerDue("home", x, 0, 3, NONE);
            walkerDue("home", x, 0, 5, NONE);
        });
    }

    // ---- a tick, 2: the lamps that wait

    private static void lampsWait() {
        holds(9, "Each lamp that waits has one tick less to wait.", () -> {
            CoughLamps x = lampsAt(10, 20, 24);
            x.set(CoughLamps.WAIT, 10);
            x.cough(0);
            x.mend(2, CoughLamps.BLIND);
            for (int left = 10; left >= 1; left--) {
                lampDue("waits", x, 1, 5, left);
                lampDue("waits", x, 2, 5, left);
                lampDue("does not wait", x, 0, 5, NONE);
                x.ticks(1);
            }
            lampDue("waits no more", x, 1, 5, NONE);
            lampDue("waits no more", x, 2, 5, NONE);
        });
        holds(9, "Those that have none left then cough, in ascending order;", () -> {
            CoughLamps x = ranksDueTogether(0, 10, 20, 30, 40, 50);
            lampDue("waits with the rank of the lower one's cough", x, 3, 6, 3);
            lampDue("heard both", x, 3, 9, 2);
            CoughLamps y = ranksDueTogether(60, 50, 40, 30, 20, 10);
            lampDue("waits with the rank of the lower one's cough", y, 3, 6, 3);
            CoughLamps z = ranksDueReversed();
            lampDue("waits with the rank of the lower one's cough", z, 3, 6, 2);
            lampDue("heard both", z, 3, 9, 2);
        });
        holds(9, "all of them do not wait any more, and have coughed in this tick, ahead of the first cough.", () -> {
            CoughLamps x = lampsAt(10, 20, 24, 16);
            x.mend(3, CoughLamps.BROKEN);
            x.cough(0);
            x.ticks(2);
            lampDue("coughed", x, 1, 8, 1);
            lampDue("coughed", x, 2, 8, 1);
            lampDue("heard the other's cough, but does not wait", x, 1, 5, NONE);
            lampDue("heard the other's cough, but does not wait", x, 2, 5, NONE);
            lampDue("heard the other's cough", x, 1, 9, 2);
            lampDue("heard the other's cough", x, 2, 9, 2);
            lampDue("had not to cough, and waits", x, 0, 5, 2);
            lampDue("had not to cough, and waits", x, 0, 6, 2);
        });
    }

    /** Lamp 2 coughs with the rank 2 and lamp 4 with the rank 1 in one tick; lamp 3 hears both. */
    private static CoughLamps ranksDueTogether(int... steps) {
        CoughLamps x = lampsAt(steps);
        x.set(CoughLamps.REACH, 10);
        x.set(CoughLamps.CHAIN, 6);
        x.cough(0);
        x.ticks(2);
        lampDue("rank 2", x, 2, 6, 2);
        due("cough(5)", x.cough(5), 1);
        lampDue("rank 1", x, 4, 6, 1);
        x.ticks(2);
        return x;
    }

    /** Lamp 2 coughs with the rank 1 and lamp 4 with the rank 2 in one tick; lamp 3 hears both. */
    private static CoughLamps ranksDueReversed() {
        CoughLamps x = lampsAt(50, 10, 40, 30, 20, 0);
        x.set(CoughLamps.REACH, 10);
        x.set(CoughLamps.CHAIN, 6);
        x.cough(5);
        x.ticks(2);
        lampDue("rank 2", x, 4, 6, 2);
        due("cough(0)", x.cough(0), 1);
        lampDue("rank 1", x, 2, 6, 1);
        x.ticks(2);
        return x;
    }

    // ---- a tick, 3: the lamps that see

    private static void lampsSee() {
        holds(9, "Each lamp that is WELL, and has a walker in the street no farther from it than EYES, in ascending order: "
                + "it becomes LIT, for AWAKE ticks anew;", () -> {
            CoughLamps x = lampsAt(20, 23, 27, 28, 40);
            x.set(CoughLamps.REACH, 1);
            x.mend(1, CoughLamps.BLIND);
            x.walker(24, 1);
            x.walker(17, 1);
            x.walker(90, 1);
            x.ticks(1);
            int[] sees = {1, 0, 1, 0, 0};
            for (int i = 0; i < sees.length; i++) {
                lampDue("sees", x, i, 8, sees[i]);
                lampDue("sees", x, i, 4, i == 3 || sees[i] == 1 ? 8 : 0);
            }
            x.ticks(1);
            lampDue("LIT anew each tick", x, 0, 4, 8);
            x.set(CoughLamps.AWAKE, 3);
            x.ticks(1);
            lampDue("LIT anew, though it had more ticks left", x, 0, 4, 3);
            CoughLamps y = lampsAt(20);
            y.walker(24, 4);
            y.goal(0, 20, 1);
            y.ticks(1);
            lampDue("seen at the step where the walker is then", y, 0, 8, 1);
            CoughLamps z = lampsAt(20);
            z.walker(23, 4);
            z.goal(0, 24, 1);
            z.ticks(1);
            lampDue("not seen where the walker was", z, 0, 8, 0);
        });
        holds(9, "if it was not LIT ahead of this step 3 (whatever a cough of this step, or its own cough of step 2, did since), "
                + "it does not wait any more, has coughed in this tick, and coughs with the rank 0.", () -> {
            seesWhileLit();
            hearsInThisStepAhead();
            litByACoughOfStepTwo();
            coughedInStepTwo();
            seesWhileItWaits();
        });
    }

    private static void seesWhileLit() {
        CoughLamps x = lampsAt(20, 30, 60);
        x.walker(21, 1);
        x.ticks(1);
        lampDue("was ASLEEP", x, 0, 8, 1);
        lampDue("hears the rank 0", x, 1, 6, 1);
        x.ticks(1);
        lampDue("is LIT, and does not cough again", x, 0, 8, 1);
        CoughLamps y = lampsAt(20, 30);
        y.cough(1);
        y.walker(21, 1);
        y.ticks(1);
        lampDue("was LIT ahead of the tick", y, 0, 8, 0);
        lampDue("who waits goes on waiting", y, 0, 5, 1);
        lampDue("LIT anew", y, 0, 4, 8);
        CoughLamps z = lampsAt(20, 30);
        z.set(CoughLamps.CHAIN, 0);
        z.set(CoughLamps.AWAKE, 1);
        z.cough(1);
        z.ticks(1);
        lampDue("DIM_LIT", z, 0, 2, CoughLamps.DIM_LIT);
        z.walker(21, 1);
        z.ticks(1);
        lampDue("was DIM_LIT", z, 0, 8, 1);
        lampDue("was DIM_LIT", z, 0, 2, CoughLamps.LIT);
    }

    /** Both see a walker; the lower one's cough makes the higher one LIT and wait, but it was ASLEEP ahead. */
    private static void hearsInThisStepAhead() {
        CoughLamps x = lampsAt(20, 24, 30);
        x.walker(22, 1);
        x.ticks(1);
        for (int i = 0; i < 2; i++) {
            lampDue("both cough", x, i, 8, 1);
            lampDue("both hear", x, i, 9, 1);
            lampDue("neither waits", x, i, 5, NONE);
        }
        lampDue("hears both", x, 2, 9, 2);
        lampDue("waits", x, 2, 5, 2);
        lampDue("waits", x, 2, 6, 1);
    }

    /** Lamp 1's cough of step 2 makes lamp 0 LIT ahead of step 3, in which it sees the walker. */
    private static void litByACoughOfStepTwo() {
        CoughLamps x = lampsAt(20, 30, 40);
        x.cough(2);
        x.ticks(1);
        lampDue("ASLEEP yet", x, 0, 2, CoughLamps.ASLEEP);
        x.walker(21, 1);
        x.mend(0, CoughLamps.BLIND);
        x.mend(0, CoughLamps.WELL);
        x.ticks(1);
        lampDue("coughed in step 2", x, 1, 8, 1);
        lampDue("LIT by it, and does not cough", x, 0, 8, 0);
        lampDue("waits with the rank of that cough", x, 0, 6, 2);
    }

    /** Lamp 1 is not LIT, coughs in step 2, and sees a walker in step 3: it coughs again. */
    private static void coughedInStepTwo() {
        CoughLamps x = lampsAt(20, 30);
        x.set(CoughLamps.AWAKE, 1);
        x.set(CoughLamps.DIM, 0);
        x.set(CoughLamps.CHAIN, 1);
        x.cough(0);
        x.ticks(1);
        lampDue("ASLEEP and waits", x, 1, 2, CoughLamps.ASLEEP);
        lampDue("ASLEEP and waits", x, 1, 5, 1);
        x.walker(31, 1);
        x.ticks(1);
        lampDue("coughs twice in this tick", x, 1, 8, 2);
        lampDue("both are heard", x, 0, 9, 2);
        lampDue("only the second one's rank is less than CHAIN", x, 0, 6, 1);
    }

    /** Lamp 1 waits and is DIM_LIT: when it sees a walker it does not wait any more. */
    private static void seesWhileItWaits() {
        CoughLamps x = lampsAt(20, 30, 40);
        x.set(CoughLamps.AWAKE, 1);
        x.set(CoughLamps.WAIT, 10);
        x.mend(2, CoughLamps.BROKEN);
        x.cough(0);
        x.ticks(1);
        x.mend(2, CoughLamps.WELL);
        lampDue("waits", x, 1, 5, 9);
        x.walker(31, 1);
        x.ticks(1);
        lampDue("does not wait any more", x, 1, 5, NONE);
        lampDue("does not wait any more", x, 1, 6, NONE);
        lampDue("coughs at once", x, 1, 8, 1);
        lampDue("hears the rank 0", x, 2, 6, 1);
        lampDue("hears the rank 0", x, 2, 5, 10);
    }

    // ---- a tick, 4: the lamps fade

    private static CoughLamps fading(int awake, int dim) {
        CoughLamps x = lampsAt(10, 20);
        x.set(CoughLamps.CHAIN, 0);
        x.set(CoughLamps.AWAKE, awake);
        x.set(CoughLamps.DIM, dim);
        x.cough(0);
        return x;
    }

    private static void lampsFade() {
        holds(9, "Each lamp that is LIT, and did not become LIT anew in this tick, has one tick less; if it has none left, "
                + "it is DIM_LIT, for DIM ticks (ASLEEP, if DIM is 0).", () -> {
            CoughLamps x = fading(2, 3);
            x.ticks(1);
            lampDue("one tick less", x, 1, 4, 1);
            lampDue("one tick less", x, 1, 2, CoughLamps.LIT);
            x.ticks(1);
            lampDue("none left", x, 1, 2, CoughLamps.DIM_LIT);
            lampDue("none left", x, 1, 4, 3);
            CoughLamps y = fading(1, 0);
            y.ticks(1);
            lampDue("none left, and DIM is 0", y, 1, 2, CoughLamps.ASLEEP);
            lampDue("none left, and DIM is 0", y, 1, 4, 0);
            CoughLamps seen = lampsAt(10);
            seen.set(CoughLamps.AWAKE, 1);
            seen.walker(10, 1);
            seen.ticks(1);
            lampDue("became LIT anew by its eyes", seen, 0, 2, CoughLamps.LIT);
            lampDue("became LIT anew by its eyes", seen, 0, 4, 1);
            seen.ticks(1);
            lampDue("became LIT anew by its eyes again", seen, 0, 4, 1);
            CoughLamps heard = lampsAt(10, 24, 38);
            heard.set(CoughLamps.AWAKE, 1);
            heard.set(CoughLamps.WAIT, 1);
            heard.cough(0);
            heard.ticks(1);
            lampDue("became LIT anew by a cough of this tick", heard, 2, 4, 1);
            lampDue("became LIT anew by a cough of this tick", heard, 0, 4, 1);
            lampDue("coughed, but did not become LIT anew", heard, 1, 2, CoughLamps.DIM_LIT);
        });
        holds(9, "Each lamp that is DIM_LIT, and was so ahead of this step 4, has one tick less; if it has none left, it is ASLEEP.", () -> {
            CoughLamps x = fading(1, 1);
            x.ticks(1);
            lampDue("was LIT ahead of this step 4", x, 1, 2, CoughLamps.DIM_LIT);
            lampDue("was LIT ahead of this step 4", x, 1, 4, 1);
            x.ticks(1);
            lampDue("none left", x, 1, 2, CoughLamps.ASLEEP);
            lampDue("none left", x, 1, 4, 0);
            CoughLamps y = fading(1, 50);
            for (int left = 50; left >= 1; left--) {
                y.ticks(1);
                lampDue("dim", y, 1, 2, CoughLamps.DIM_LIT);
                lampDue("dim", y, 1, 4, left);
            }
            y.ticks(1);
            lampDue("none left", y, 1, 2, CoughLamps.ASLEEP);
            y.ticks(100);
            lampDue("ASLEEP on", y, 1, 2, CoughLamps.ASLEEP);
            lampDue("ASLEEP on", y, 1, 4, 0);
        });
    }

    // ---- a tick, 5: what is counted

    private static void tallies() {
        holds(9, "Each LIT lamp uses 4 units of light, each DIM_LIT one 1.", () -> {
            CoughLamps x = fading(2, 2);
            int[] light = {4, 5, 6, 6};
            for (int i = 0; i < light.length; i++) {
                x.ticks(1);
                lampDue("tick " + i, x, 1, 7, light[i]);
                lampDue("an ASLEEP one", x, 0, 7, 0);
                countDue("tick " + i, x, 7, light[i]);
            }
            CoughLamps y = fullStreet();
            for (int i = 0; i < 8; i++) {
                y.walker(6 * i, 1);
            }
            int before = y.count(7);
            y.ticks(1);
            countDue("16 LIT lamps", y, 7, before + 64);
        });
        holds(9, "Each walker in the street whose step is not lit has a dark tick; "
                + "the lamp to blame for it is the nearest one to the walker, of several the lowest one.", () -> {
            darkAtTheEndOfTheLight();
            nearestIsToBlame();
            CoughLamps x = new CoughLamps();
            x.walker(0, 1);
            x.walker(0, 1);
            x.ticks(2);
            countDue("without a lamp", x, 8, 4);
            walkerDue("without a lamp", x, 1, 6, 2);
            x.lamp(99, 1);
            lampDue("what was dark ahead of the first lamp", x, 0, 10, 0);
            x.ticks(3);
            lampDue("the only lamp, 99 steps away", x, 0, 10, 6);
        });
        holds(9, "Each sleeper who is disturbed has a disturbed tick.", () -> {
            CoughLamps x = new CoughLamps();
            x.lamp(50, 9);
            x.lamp(56, 9);
            x.lamp(80, 9);
            x.set(CoughLamps.REACH, 30);
            x.set(CoughLamps.AWAKE, 3);
            x.set(CoughLamps.CHAIN, 0);
            x.house(53);
            x.house(53);
            x.house(46);
            x.cough(2);
            x.ticks(2);
            houseDue("one tick each, though two lamps disturb", x, 0, 2, 2);
            houseDue("one tick each, though two lamps disturb", x, 1, 2, 2);
            houseDue("too far", x, 2, 2, 0);
            countDue("both sleepers", x, 9, 4);
            x.ticks(1);
            houseDue("DIM_LIT in this tick", x, 0, 2, 2);
        });
        holds(9, "Then the tick increases by 1.", () -> {
            CoughLamps x = new CoughLamps();
            for (int tick = 1; tick <= 20; tick++) {
                due("ticks(1)", x.ticks(1), tick);
                countDue("ticks(1)", x, 0, tick);
            }
            due("ticks(17)", x.ticks(17), 37);
        });
    }

    private static void darkAtTheEndOfTheLight() {
        CoughLamps x = litAt(50, 9);
        x.set(CoughLamps.EYES, 0);
        x.set(CoughLamps.AWAKE, 4);
        x.cough(1);
        x.walker(59, 1);
        x.walker(60, 1);
        x.walker(41, 1);
        x.walker(40, 1);
        x.walker(54, 1);
        x.walker(55, 1);
        x.ticks(3);
        int[] dark = {0, 3, 0, 3, 0, 0};
        for (int i = 0; i < dark.length; i++) {
            walkerDue("LIT", x, i, 6, dark[i]);
        }
        x.ticks(1);
        int[] dimDark = {1, 4, 1, 4, 0, 1};
        for (int i = 0; i < dimDark.length; i++) {
            walkerDue("DIM_LIT in this tick", x, i, 6, dimDark[i]);
        }
        countDue("all of them", x, 8, 11);
    }

    private static void nearestIsToBlame() {
        CoughLamps x = lampsAt(70, 30, 50, 40);
        x.set(CoughLamps.EYES, 0);
        x.walker(60, 1);
        x.walker(45, 1);
        x.walker(35, 1);
        x.walker(0, 1);
        x.walker(46, 1);
        x.mend(3, CoughLamps.BLIND);
        x.ticks(1);
        int[] blamed = {1, 2, 2, 0};
        for (int i = 0; i < blamed.length; i++) {
            lampDue("the nearest, of several the lowest", x, i, 10, blamed[i]);
        }
        x.walker(39, 1);
        x.mend(2, CoughLamps.BROKEN);
        x.ticks(1);
        int[] then = {2, 4, 4, 1};
        for (int i = 0; i < then.length; i++) {
            lampDue("however it is", x, i, 10, then[i]);
        }
    }

    // ---- ticks

    private static void promise9() {
        holds(9, "Lets ticks pass.", () -> {
            CoughLamps x = busyStreet();
            CoughLamps y = busyStreet();
            for (int i = 0; i < 30; i++) {
                x.ticks(1);
            }
            y.ticks(30);
            same("30 ticks, one by one or at once", look(y), look(x));
        });
        holds(9, IS_A_CHANGE, () -> {
            isChange("ticks(1)", Sentences::busyStreet, x -> x.ticks(1));
            isChange("ticks(200)", Sentences::busyStreet, x -> x.ticks(200));
        });
        holds(9, "- `ticks`: 1 to 200", () -> {
            CoughLamps x = new CoughLamps();
            due("ticks(0)", x.ticks(0), BAD_VALUE);
            due("ticks(201)", x.ticks(201), BAD_VALUE);
            due("ticks(1)", x.ticks(1), 1);
            due("ticks(200)", x.ticks(200), 201);
        });
        holds(9, "Returns the tick then; BAD_VALUE if ticks is out of range.", () -> {
            CoughLamps x = fullStreet();
            due("ticks(7)", x.ticks(7), 10);
            for (int wrong : WRONG) {
                due("ticks(" + wrong + ")", x.ticks(wrong), BAD_VALUE);
            }
            countDue("tick", x, 0, 10);
            CoughLamps y = new CoughLamps();
            int tick = 0;
            for (int i = 0; i < 500; i++) {
                tick += 200;
                due("ticks(200)", y.ticks(200), tick);
            }
        });
        holds(9, CHANGES_NOTHING, () -> {
            refused("ticks(0)", BAD_VALUE, Sentences::busyStreet, x -> x.ticks(0));
            refused("ticks(201)", BAD_VALUE, Sentences::fullStreet, x -> x.ticks(201));
        });
    }
}
