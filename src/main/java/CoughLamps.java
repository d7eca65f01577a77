/**
 * Lamps along a street at night that wake one another by coughs of light, so that walkers are not in
 * the dark. The promises that the public methods keep are numbered in ../shared/DOC.md.
 *
 * <p>All rows and states are made with the object and used again; no call makes an object.
 */
public final class CoughLamps {
    public static final int NO_SUCH = -1, BAD_VALUE = -2, BAD_TEXT = -3, TOO_MANY = -4, NOT_POSSIBLE = -5, NONE = -6;
    public static final int EYES = 0, REACH = 1, AWAKE = 2, DIM = 3, WAIT = 4, CHAIN = 5;
    public static final int ASLEEP = 0, DIM_LIT = 1, LIT = 2;
    public static final int WELL = 0, BLIND = 1, BROKEN = 2;

    private static final int STEPS = 100;
    private static final int MOST_LAMPS = 16, MOST_HOUSES = 8, MOST_WALKERS = 8, MOST_GOALS = 6;
    private static final int MOST_SHINE = 30, MOST_PACE = 4, MOST_PAUSE = 20, MOST_TICKS = 200;
    private static final int HOME_TICKS = 500, NEEDLESS_TICKS = 100;
    private static final int SETTINGS = 6, SLOTS = 2, HISTORY = 6, PAD_SIGNS = 80, PUT_SIGNS = 8;
    private static final int COUNT_OF_SETTING = 11;
    private static final int DARK_TICKS = 0, LIGHT_UNITS = 1, DISTURBED_TICKS = 2, COUGHS = 3;

    private static final int[] FIRST_VALUES = {3, 14, 8, 6, 2, 2};
    private static final int[] LEAST_VALUES = {0, 1, 1, 0, 1, 0};
    private static final int[] MOST_VALUES = {20, 60, 50, 50, 10, 6};

    private final Street now = new Street();
    private final Street trial = new Street();
    private final Street[] slots = new Street[SLOTS];
    private final boolean[] saved = new boolean[SLOTS];
    private final History history = new History();
    private final Pad pad = new Pad();

    public CoughLamps() {
        for (int i = 0; i < SLOTS; i++) {
            slots[i] = new Street();
        }
    }

    // ---- setting up

    public int set(int setting, int value) {
        history.draft(now);
        return history.keepUnlessError(now.changeSetting(setting, value));
    }

    public int lamp(int step, int shine) {
        history.draft(now);
        return history.keepUnlessError(now.addLamp(step, shine));
    }

    public int house(int step) {
        history.draft(now);
        return history.keepUnlessError(now.addHouse(step));
    }

    public int walker(int step, int pace) {
        history.draft(now);
        return history.keepUnlessError(now.addWalker(step, pace));
    }

    public int goal(int walker, int step, int pause) {
        history.draft(now);
        return history.keepUnlessError(now.giveGoal(walker, step, pause));
    }

    public int mend(int lamp, int how) {
        history.draft(now);
        return history.keepUnlessError(now.mendLamp(lamp, how));
    }

    public int cough(int lamp) {
        history.draft(now);
        return history.keepUnlessError(now.coughByOrder(lamp));
    }

    public int ticks(int ticks) {
        history.draft(now);
        return history.keepUnlessError(now.letPass(ticks));
    }

    // ---- what there is

    public int ofLamp(int lamp, int what) {
        return now.hasLamp(lamp) ? now.lamps[lamp].tell(what) : NO_SUCH;
    }

    public int ofWalker(int walker, int what) {
        return now.hasWalker(walker) ? now.tellOfWalker(now.walkers[walker], what) : NO_SUCH;
    }

    public int ofHouse(int house, int what) {
        return now.hasHouse(house) ? now.tellOfHouse(now.houses[house], what) : NO_SUCH;
    }

    public int lightAt(int step) {
        return isStep(step) ? now.lampsThatLight(step) : NO_SUCH;
    }

    public int hearers(int lamp) {
        return now.hasLamp(lamp) ? now.lampsThatHear(lamp) : NO_SUCH;
    }

    public int count(int what) {
        if (within(what, COUNT_OF_SETTING, COUNT_OF_SETTING + SETTINGS - 1)) {
            return now.settings[what - COUNT_OF_SETTING];
        }
        switch (what) {
            case 0: return now.tick;
            case 1: return now.lampCount;
            case 2: return now.houseCount;
            case 3: return now.walkerCount;
            case 4: return now.walkersInStreet();
            case 5: return Integer.bitCount(now.lampsThatAre(LIT));
            case 6: return Integer.bitCount(now.lampsThatAre(DIM_LIT));
            case 7: return now.total(LIGHT_UNITS);
            case 8: return now.total(DARK_TICKS);
            case 9: return now.total(DISTURBED_TICKS);
            case 10: return now.total(COUGHS);
            case 17: return pad.length;
            case 18: return history.size;
            default: return BAD_VALUE;
        }
    }

    // ---- what if, if nothing else is done; nothing changes

    public int homeIn(int walker) {
        if (!now.hasWalker(walker)) {
            return NO_SUCH;
        }
        // No lamp changes a walker's way, so this walker alone is tried.
        Walker tried = trial.walkers[walker];
        tried.copyFrom(now.walkers[walker]);
        for (int ticks = 0; ticks <= HOME_TICKS; ticks++) {
            if (tried.home) {
                return ticks;
            }
            tried.go();
        }
        return NONE;
    }

    public int brings(int ticks, int what) {
        if (!isTicks(ticks) || !within(what, DARK_TICKS, COUGHS)) {
            return BAD_VALUE;
        }
        trial.become(now);
        trial.letPass(ticks);
        return broughtByTrial(what);
    }

    public int bestReach(int ticks) {
        if (!isTicks(ticks)) {
            return BAD_VALUE;
        }
        int best = NONE;
        int fewestDark = 0;
        int leastLight = 0;
        int least = LEAST_VALUES[REACH];
        for (int reach = least; reach <= MOST_VALUES[REACH]; reach++) {
            // If no two lamps are as far apart as this, the reach below does the same, and is less.
            if (reach > least && !now.hasLampsApart(reach)) {
                continue;
            }
            trial.become(now);
            trial.changeSetting(REACH, reach);
            trial.letPass(ticks);
            int dark = broughtByTrial(DARK_TICKS);
            int light = broughtByTrial(LIGHT_UNITS);
            if (best == NONE || dark < fewestDark || dark == fewestDark && light < leastLight) {
                best = reach;
                fewestDark = dark;
                leastLight = light;
            }
        }
        return best;
    }

    public int needless() {
        trial.become(now);
        trial.letPass(NEEDLESS_TICKS);
        int darkAsItIs = broughtByTrial(DARK_TICKS);
        int set = 0;
        for (int i = 0; i < now.lampCount; i++) {
            trial.become(now);
            trial.mendLamp(i, BROKEN);
            trial.letPass(NEEDLESS_TICKS);
            if (broughtByTrial(DARK_TICKS) <= darkAsItIs) {
                set |= 1 << i;
            }
        }
        return set;
    }

    private int broughtByTrial(int what) {
        return trial.total(what) - now.total(what);
    }

    // ---- texts

    public int put(long characters) {
        int more = countSigns(characters);
        if (more == 0) {
            return BAD_VALUE;
        }
        if (pad.length + more > PAD_SIGNS) {
            return TOO_MANY;
        }
        for (int i = more - 1; i >= 0; i--) {
            pad.append((char) (characters >>> (8 * i) & 255));
        }
        return pad.length;
    }

    public int wipe() {
        int length = pad.length;
        pad.clear();
        return length;
    }

    public int fault() {
        return pad.firstFault();
    }

    public int carryOut() {
        if (pad.firstFault() != NONE) {
            return BAD_TEXT;
        }
        history.draft(now);
        int done = 0;
        pad.rewind();
        while (done < PAD_SIGNS && pad.readNextOrder() && carryOrder() >= 0) {
            done++;
        }
        pad.clear();
        return history.keepUnlessError(done);
    }

    /** Carries the order out that the pad has read; a negative answer is its error. */
    private int carryOrder() {
        switch (pad.kind) {
            case 'w': return carryWalkerIn();
            case 'c': return now.coughByOrder(pad.numbers[0]);
            case 'm': return now.mendLamp(pad.numbers[0], pad.numbers[1]);
            case 't': return now.letPass(pad.numbers[0]);
            default: return BAD_TEXT;
        }
    }

    private int carryWalkerIn() {
        int walker = now.addWalker(pad.numbers[0], pad.numbers[1]);
        int answer = walker;
        for (int i = 2; i + 1 < pad.numberCount && answer >= 0; i += 2) {
            answer = now.giveGoal(walker, pad.numbers[i], pad.numbers[i + 1]);
        }
        return answer;
    }

    /** Answers how many signs a number for the pad holds, 0 if it is a bad one. */
    private static int countSigns(long characters) {
        long rest = characters;
        int signs = 0;
        for (int i = 0; i < PUT_SIGNS && rest != 0; i++) {
            if (!within((int) (rest & 255), 33, 126)) {
                return 0;
            }
            signs++;
            rest >>>= 8;
        }
        return signs;
    }

    // ---- undo, saving

    public int undo() {
        return history.takeBack(now);
    }

    public int save(int slot) {
        if (!within(slot, 0, SLOTS - 1)) {
            return BAD_VALUE;
        }
        slots[slot].become(now);
        saved[slot] = true;
        return now.tick;
    }

    public int restore(int slot) {
        if (!within(slot, 0, SLOTS - 1)) {
            return BAD_VALUE;
        }
        if (!saved[slot]) {
            return NOT_POSSIBLE;
        }
        history.draft(now);
        now.become(slots[slot]);
        return history.keepUnlessError(now.tick);
    }

    // ---- ranges

    private static boolean within(int value, int least, int most) {
        return value >= least && value <= most;
    }

    private static boolean isStep(int step) {
        return within(step, 0, STEPS - 1);
    }

    private static boolean isTicks(int ticks) {
        return within(ticks, 1, MOST_TICKS);
    }

    /** One lamp: where it is, what it does, and what it has done. */
    private static final class Lamp {
        int step;
        int shine;
        int does;
        int how;
        int left;
        int wait;
        int rank;
        int light;
        int coughs;
        int heard;
        int blamed;
        // Only of the tick that passes: no copy needs them, since what comes next forgets them first.
        boolean anew;
        boolean coughed;

        /** Sets all that is kept, since a lamp that is no more may have left its own here. */
        void place(int newStep, int newShine) {
            step = newStep;
            shine = newShine;
            does = ASLEEP;
            how = WELL;
            left = 0;
            wait = NONE;
            rank = 0;
            light = 0;
            coughs = 0;
            heard = 0;
            blamed = 0;
        }

        void copyFrom(Lamp other) {
            step = other.step;
            shine = other.shine;
            does = other.does;
            how = other.how;
            left = other.left;
            wait = other.wait;
            rank = other.rank;
            light = other.light;
            coughs = other.coughs;
            heard = other.heard;
            blamed = other.blamed;
        }

        void forgetTick() {
            anew = false;
            coughed = false;
        }

        int distanceTo(int place) {
            return Math.abs(step - place);
        }

        boolean lights(int place) {
            if (does == ASLEEP) {
                return false;
            }
            return distanceTo(place) <= (does == LIT ? shine : shine / 2);
        }

        boolean disturbs(int place) {
            return does == LIT && distanceTo(place) <= shine / 3;
        }

        void wake(int awake) {
            does = LIT;
            left = awake;
            anew = true;
        }

        void hear(int itsRank, int[] settings) {
            heard++;
            wake(settings[AWAKE]);
            if (itsRank < settings[CHAIN] && wait == NONE && !coughed) {
                wait = settings[WAIT];
                rank = itsRank + 1;
            }
        }

        /** From here to the end of the tick, no cough that is heard makes it wait. */
        void takeTurn() {
            wait = NONE;
            coughed = true;
        }

        void fade(int dim) {
            if (does == ASLEEP || anew) {
                return;
            }
            left--;
            if (left > 0) {
                return;
            }
            if (does == LIT && dim > 0) {
                does = DIM_LIT;
                left = dim;
            } else {
                does = ASLEEP;
            }
        }

        void useLight() {
            if (does == LIT) {
                light += 4;
            } else if (does == DIM_LIT) {
                light++;
            }
        }

        void becomes(int newHow) {
            how = newHow;
            if (how == BROKEN) {
                does = ASLEEP;
                left = 0;
                wait = NONE;
            }
        }

        int tell(int what) {
            switch (what) {
                case 0: return step;
                case 1: return shine;
                case 2: return does;
                case 3: return how;
                case 4: return left;
                case 5: return wait;
                case 6: return wait == NONE ? NONE : rank;
                case 7: return light;
                case 8: return coughs;
                case 9: return heard;
                case 10: return blamed;
                default: return BAD_VALUE;
            }
        }
    }

    /** One house with its sleeper. */
    private static final class House {
        int step;
        int disturbed;

        void place(int newStep) {
            step = newStep;
            disturbed = 0;
        }

        void copyFrom(House other) {
            step = other.step;
            disturbed = other.disturbed;
        }
    }

    /** One walker with the goals that are left, the one that is gone to first. */
    private static final class Walker {
        final int[] goalSteps = new int[MOST_GOALS];
        final int[] goalPauses = new int[MOST_GOALS];
        int goals;
        int step;
        int pace;
        boolean home;
        int rested;
        int dark;
        int walked;

        /** Sets all that is kept, since a walker who is no more may have left its own here. */
        void place(int newStep, int newPace) {
            goals = 0;
            step = newStep;
            pace = newPace;
            home = false;
            rested = NONE;
            dark = 0;
            walked = 0;
        }

        void copyFrom(Walker other) {
            System.arraycopy(other.goalSteps, 0, goalSteps, 0, MOST_GOALS);
            System.arraycopy(other.goalPauses, 0, goalPauses, 0, MOST_GOALS);
            goals = other.goals;
            step = other.step;
            pace = other.pace;
            home = other.home;
            rested = other.rested;
            dark = other.dark;
            walked = other.walked;
        }

        int addGoal(int newStep, int pause) {
            if (goals >= MOST_GOALS) {
                return TOO_MANY;
            }
            if (home) {
                return NOT_POSSIBLE;
            }
            goalSteps[goals] = newStep;
            goalPauses[goals] = pause;
            goals++;
            return goals;
        }

        void go() {
            if (goals == 0) {
                return;
            }
            if (rested != NONE) {
                rested++;
                if (rested >= goalPauses[0]) {
                    finishGoal();
                }
                return;
            }
            int way = goalSteps[0] - step;
            int steps = Math.max(-pace, Math.min(pace, way));
            step += steps;
            walked += Math.abs(steps);
            if (steps == way) {
                arrive();
            }
        }

        private void arrive() {
            if (goalPauses[0] > 0) {
                rested = 0;
            } else {
                finishGoal();
            }
        }

        private void finishGoal() {
            rested = NONE;
            goals--;
            System.arraycopy(goalSteps, 1, goalSteps, 0, MOST_GOALS - 1);
            System.arraycopy(goalPauses, 1, goalPauses, 0, MOST_GOALS - 1);
            home = goals == 0;
        }
    }

    /** Everything that undo, save and restore bring back, and the rules of a tick. */
    private static final class Street {
        final int[] settings = new int[SETTINGS];
        final Lamp[] lamps = new Lamp[MOST_LAMPS];
        final House[] houses = new House[MOST_HOUSES];
        final Walker[] walkers = new Walker[MOST_WALKERS];
        int lampCount;
        int houseCount;
        int walkerCount;
        int tick;

        Street() {
            System.arraycopy(FIRST_VALUES, 0, settings, 0, SETTINGS);
            for (int i = 0; i < MOST_LAMPS; i++) {
                lamps[i] = new Lamp();
            }
            for (int i = 0; i < MOST_HOUSES; i++) {
                houses[i] = new House();
            }
            for (int i = 0; i < MOST_WALKERS; i++) {
                walkers[i] = new Walker();
            }
        }

        void become(Street other) {
            System.arraycopy(other.settings, 0, settings, 0, SETTINGS);
            lampCount = other.lampCount;
            for (int i = 0; i < lampCount; i++) {
                lamps[i].copyFrom(other.lamps[i]);
            }
            houseCount = other.houseCount;
            for (int i = 0; i < houseCount; i++) {
                houses[i].copyFrom(other.houses[i]);
            }
            walkerCount = other.walkerCount;
            for (int i = 0; i < walkerCount; i++) {
                walkers[i].copyFrom(other.walkers[i]);
            }
            tick = other.tick;
        }

        boolean hasLamp(int lamp) {
            return lamp >= 0 && lamp < lampCount;
        }

        boolean hasHouse(int house) {
            return house >= 0 && house < houseCount;
        }

        boolean hasWalker(int walker) {
            return walker >= 0 && walker < walkerCount;
        }

        // -- changes; each answers an error without having changed anything

        int changeSetting(int setting, int value) {
            if (!within(setting, 0, SETTINGS - 1)
                    || !within(value, LEAST_VALUES[setting], MOST_VALUES[setting])) {
                return BAD_VALUE;
            }
            int previous = settings[setting];
            settings[setting] = value;
            return previous;
        }

        int addLamp(int step, int shine) {
            if (!isStep(step) || !within(shine, 1, MOST_SHINE)) {
                return BAD_VALUE;
            }
            if (lampCount >= MOST_LAMPS) {
                return TOO_MANY;
            }
            for (int i = 0; i < lampCount; i++) {
                if (lamps[i].step == step) {
                    return NOT_POSSIBLE;
                }
            }
            lamps[lampCount].place(step, shine);
            lampCount++;
            return lampCount - 1;
        }

        int addHouse(int step) {
            if (!isStep(step)) {
                return BAD_VALUE;
            }
            if (houseCount >= MOST_HOUSES) {
                return TOO_MANY;
            }
            houses[houseCount].place(step);
            houseCount++;
            return houseCount - 1;
        }

        int addWalker(int step, int pace) {
            if (!isStep(step) || !within(pace, 1, MOST_PACE)) {
                return BAD_VALUE;
            }
            if (walkerCount >= MOST_WALKERS) {
                return TOO_MANY;
            }
            walkers[walkerCount].place(step, pace);
            walkerCount++;
            return walkerCount - 1;
        }

        int giveGoal(int walker, int step, int pause) {
            if (!hasWalker(walker)) {
                return NO_SUCH;
            }
            if (!isStep(step) || !within(pause, 0, MOST_PAUSE)) {
                return BAD_VALUE;
            }
            return walkers[walker].addGoal(step, pause);
        }

        int mendLamp(int lamp, int how) {
            if (!hasLamp(lamp)) {
                return NO_SUCH;
            }
            if (!within(how, WELL, BROKEN)) {
                return BAD_VALUE;
            }
            int previous = lamps[lamp].how;
            lamps[lamp].becomes(how);
            return previous;
        }

        int coughByOrder(int lamp) {
            if (!hasLamp(lamp)) {
                return NO_SUCH;
            }
            if (lamps[lamp].how == BROKEN) {
                return NOT_POSSIBLE;
            }
            // The tick that passed last is over: who coughed in it may wait again.
            forgetLastTick();
            return spreadCough(lamp, 0);
        }

        int letPass(int ticks) {
            if (!isTicks(ticks)) {
                return BAD_VALUE;
            }
            for (int i = 0; i < ticks; i++) {
                forgetLastTick();
                moveWalkers();
                coughThoseWhoWaited();
                wakeThoseWhoSee();
                fadeLamps();
                tally();
                tick++;
            }
            return tick;
        }

        // -- a tick

        private void forgetLastTick() {
            for (int i = 0; i < lampCount; i++) {
                lamps[i].forgetTick();
            }
        }

        private void moveWalkers() {
            for (int i = 0; i < walkerCount; i++) {
                walkers[i].go();
            }
        }

        private void coughThoseWhoWaited() {
            int due = 0;
            for (int i = 0; i < lampCount; i++) {
                Lamp lamp = lamps[i];
                if (lamp.wait == NONE) {
                    continue;
                }
                lamp.wait--;
                if (lamp.wait <= 0) {
                    lamp.takeTurn();
                    due |= 1 << i;
                }
            }
            for (int i = 0; i < lampCount; i++) {
                if ((due >> i & 1) == 1) {
                    spreadCough(i, lamps[i].rank);
                }
            }
        }

        private void wakeThoseWhoSee() {
            int litAhead = lampsThatAre(LIT);
            for (int i = 0; i < lampCount; i++) {
                if (!seesWalker(lamps[i])) {
                    continue;
                }
                lamps[i].wake(settings[AWAKE]);
                if ((litAhead >> i & 1) == 0) {
                    lamps[i].takeTurn();
                    spreadCough(i, 0);
                }
            }
        }

        private boolean seesWalker(Lamp lamp) {
            if (lamp.how != WELL) {
                return false;
            }
            for (int i = 0; i < walkerCount; i++) {
                if (!walkers[i].home && lamp.distanceTo(walkers[i].step) <= settings[EYES]) {
                    return true;
                }
            }
            return false;
        }

        private void fadeLamps() {
            for (int i = 0; i < lampCount; i++) {
                lamps[i].fade(settings[DIM]);
            }
        }

        private void tally() {
            for (int i = 0; i < lampCount; i++) {
                lamps[i].useLight();
            }
            for (int i = 0; i < walkerCount; i++) {
                Walker walker = walkers[i];
                if (!walker.home && lampsThatLight(walker.step) == 0) {
                    walker.dark++;
                    blameNearest(walker.step);
                }
            }
            for (int i = 0; i < houseCount; i++) {
                if (isDisturbed(houses[i])) {
                    houses[i].disturbed++;
                }
            }
        }

        private void blameNearest(int step) {
            if (lampCount == 0) {
                return;
            }
            Lamp nearest = lamps[0];
            for (int i = 1; i < lampCount; i++) {
                if (lamps[i].distanceTo(step) < nearest.distanceTo(step)) {
                    nearest = lamps[i];
                }
            }
            nearest.blamed++;
        }

        // -- coughs

        /** Lets a lamp cough, and answers how many lamps hear it. */
        private int spreadCough(int cougher, int rank) {
            lamps[cougher].coughs++;
            int hearing = 0;
            for (int i = 0; i < lampCount; i++) {
                if (hears(i, cougher)) {
                    lamps[i].hear(rank, settings);
                    hearing++;
                }
            }
            return hearing;
        }

        private boolean hears(int hearer, int cougher) {
            return hearer != cougher && lamps[hearer].how != BROKEN
                    && lamps[hearer].distanceTo(lamps[cougher].step) <= settings[REACH];
        }

        int lampsThatHear(int cougher) {
            int set = 0;
            for (int i = 0; i < lampCount; i++) {
                if (lamps[cougher].how != BROKEN && hears(i, cougher)) {
                    set |= 1 << i;
                }
            }
            return set;
        }

        boolean hasLampsApart(int distance) {
            for (int i = 0; i < lampCount; i++) {
                for (int j = 0; j < i; j++) {
                    if (lamps[i].distanceTo(lamps[j].step) == distance) {
                        return true;
                    }
                }
            }
            return false;
        }

        // -- what there is

        int lampsThatAre(int does) {
            int set = 0;
            for (int i = 0; i < lampCount; i++) {
                if (lamps[i].does == does) {
                    set |= 1 << i;
                }
            }
            return set;
        }

        int lampsThatLight(int step) {
            int set = 0;
            for (int i = 0; i < lampCount; i++) {
                if (lamps[i].lights(step)) {
                    set |= 1 << i;
                }
            }
            return set;
        }

        int walkersInStreet() {
            int inStreet = 0;
            for (int i = 0; i < walkerCount; i++) {
                if (!walkers[i].home) {
                    inStreet++;
                }
            }
            return inStreet;
        }

        private boolean isDisturbed(House house) {
            for (int i = 0; i < lampCount; i++) {
                if (lamps[i].disturbs(house.step)) {
                    return true;
                }
            }
            return false;
        }

        int tellOfHouse(House house, int what) {
            switch (what) {
                case 0: return house.step;
                case 1: return isDisturbed(house) ? 1 : 0;
                case 2: return house.disturbed;
                default: return BAD_VALUE;
            }
        }

        int tellOfWalker(Walker walker, int what) {
            switch (what) {
                case 0: return walker.step;
                case 1: return walker.pace;
                case 2: return walker.home ? 1 : 0;
                case 3: return walker.goals > 0 ? walker.goalSteps[0] : NONE;
                case 4: return walker.goals;
                case 5: return walker.rested;
                case 6: return walker.dark;
                case 7: return !walker.home && lampsThatLight(walker.step) != 0 ? 1 : 0;
                case 8: return walker.walked;
                default: return BAD_VALUE;
            }
        }

        // -- what all ticks so far have brought

        /** The number of a total is the one that brings() has for it. */
        int total(int what) {
            switch (what) {
                case DARK_TICKS: return darkTicks();
                case LIGHT_UNITS: return lightUnits();
                case DISTURBED_TICKS: return disturbedTicks();
                default: return coughsSoFar();
            }
        }

        private int darkTicks() {
            int sum = 0;
            for (int i = 0; i < walkerCount; i++) {
                sum += walkers[i].dark;
            }
            return sum;
        }

        private int lightUnits() {
            int sum = 0;
            for (int i = 0; i < lampCount; i++) {
                sum += lamps[i].light;
            }
            return sum;
        }

        private int disturbedTicks() {
            int sum = 0;
            for (int i = 0; i < houseCount; i++) {
                sum += houses[i].disturbed;
            }
            return sum;
        }

        private int coughsSoFar() {
            int sum = 0;
            for (int i = 0; i < lampCount; i++) {
                sum += lamps[i].coughs;
            }
            return sum;
        }
    }

    /** The states that undo goes back to, in a ring with one place more for a draft. */
    private static final class History {
        private static final int PLACES = HISTORY + 1;

        final Street[] states = new Street[PLACES];
        int draftPlace;
        int size;

        History() {
            for (int i = 0; i < PLACES; i++) {
                states[i] = new Street();
            }
        }

        /** Notes the state ahead of a call that may turn out to be an error. */
        void draft(Street street) {
            states[draftPlace].become(street);
        }

        int keepUnlessError(int answer) {
            if (answer >= 0) {
                draftPlace = draftPlace + 1 < PLACES ? draftPlace + 1 : 0;
                size = Math.min(size + 1, HISTORY);
            }
            return answer;
        }

        int takeBack(Street street) {
            if (size == 0) {
                return NOT_POSSIBLE;
            }
            draftPlace = draftPlace > 0 ? draftPlace - 1 : PLACES - 1;
            size--;
            street.become(states[draftPlace]);
            return size;
        }
    }

    /** A text of orders, and the place up to which it has been read. */
    private static final class Pad {
        // No sign that can be put is this one.
        private static final char END = 0;

        final char[] signs = new char[PAD_SIGNS];
        // A number takes a sign at least, and a pause that is left out takes one from its ">".
        final int[] numbers = new int[PAD_SIGNS];
        int length;
        int at;
        int numberCount;
        int kind;

        void append(char sign) {
            if (length < PAD_SIGNS) {
                signs[length] = sign;
                length++;
            }
        }

        void clear() {
            length = 0;
        }

        void rewind() {
            at = 0;
        }

        int firstFault() {
            rewind();
            for (int i = 0; i < PAD_SIGNS; i++) {
                if (!readOrder()) {
                    return at;
                }
                if (at >= length) {
                    return NONE;
                }
                if (!readSign(';')) {
                    return at;
                }
            }
            return at;
        }

        /** Reads one order more of a text without a fault; false at the end of the text. */
        boolean readNextOrder() {
            return (at == 0 || readSign(';')) && readOrder();
        }

        /** Reads an order's kind and numbers; if it has a fault, it stops there. */
        private boolean readOrder() {
            numberCount = 0;
            kind = sign();
            switch (kind) {
                case 'w': return readSign('w') && readNumber() && readSign('/') && readNumber() && readGoals();
                case 'c': return readSign('c') && readNumber();
                case 'm': return readSign('m') && readNumber() && readSign('=') && readMode();
                case 't': return readSign('t') && readNumber();
                default: return false;
            }
        }

        private boolean readGoals() {
            for (int i = 0; i < PAD_SIGNS && sign() == '>'; i++) {
                at++;
                if (!readNumber()) {
                    return false;
                }
                if (sign() != '*') {
                    keepNumber(0);
                } else if (!readSign('*') || !readNumber()) {
                    return false;
                }
            }
            return true;
        }

        private boolean readMode() {
            char mode = sign();
            if (mode < '0' || mode > '2') {
                return false;
            }
            keepNumber(mode - '0');
            at++;
            return true;
        }

        /** Reads no digit behind a leading 0 or a third digit: whatever is read next has its fault there. */
        private boolean readNumber() {
            if (!isDigit(sign())) {
                return false;
            }
            int digits = sign() == '0' ? 1 : 3;
            int number = 0;
            for (int i = 0; i < digits && isDigit(sign()); i++) {
                number = 10 * number + (sign() - '0');
                at++;
            }
            keepNumber(number);
            return true;
        }

        private boolean readSign(char wanted) {
            if (sign() != wanted) {
                return false;
            }
            at++;
            return true;
        }

        private void keepNumber(int number) {
            if (numberCount < PAD_SIGNS) {
                numbers[numberCount] = number;
                numberCount++;
            }
        }

        private char sign() {
            return at < length && at < PAD_SIGNS ? signs[at] : END;
        }

        private static boolean isDigit(char sign) {
            return sign >= '0' && sign <= '9';
        }
    }
}
