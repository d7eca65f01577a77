import java.util.ArrayDeque;
import java.util.ArrayList;
import java.util.Comparator;
import java.util.Deque;
import java.util.List;

/**
 * A second reading of the document, made of lists and copies, that shares no code with CoughLamps.
 * Forecasts are made by doing what they ask about to a copy.
 */
final class PlainStreet {
    private static final int NO_SUCH = -1;
    private static final int BAD_VALUE = -2;
    private static final int BAD_TEXT = -3;
    private static final int TOO_MANY = -4;
    private static final int NOT_POSSIBLE = -5;
    private static final int NONE = -6;
    private static final String NUMBER = "(0|[1-9][0-9]{0,2})";
    private static final String ORDER = "(w" + NUMBER + "/" + NUMBER + "(>" + NUMBER + "(\\*" + NUMBER + ")?)*|c" + NUMBER
        + "|m" + NUMBER + "=[012]|t" + NUMBER + ")";
    private static final String TEXT = ORDER + "(;" + ORDER + ")*";
    private static final String[] ENDS = {"", "0", "/0", "0/0", "=0", "0=0", "c0"};

    private static final class Lamp implements Cloneable {
        int step, shine, does, how, left, light, coughs, heard, blamed;
        Integer wait;
        int rank;

        Lamp copy() {
            try {
                return (Lamp) clone();
            } catch (CloneNotSupportedException e) {
                throw new IllegalStateException(e);
            }
        }
    }

    private static final class Walker {
        int step, pace, dark, walked;
        boolean hadGoal;
        Integer rested;
        List<int[]> goals = new ArrayList<>();

        boolean isHome() {
            return hadGoal && goals.isEmpty();
        }

        Walker copy() {
            Walker w = new Walker();
            w.step = step;
            w.pace = pace;
            w.dark = dark;
            w.walked = walked;
            w.hadGoal = hadGoal;
            w.rested = rested;
            w.goals.addAll(goals);
            return w;
        }
    }

    private static final class State {
        int tick;
        int[] settings = {3, 14, 8, 6, 2, 2};
        List<Lamp> lamps = new ArrayList<>();
        List<int[]> houses = new ArrayList<>();
        List<Walker> walkers = new ArrayList<>();

        State copy() {
            State s = new State();
            s.tick = tick;
            s.settings = settings.clone();
            for (Lamp lamp : lamps) {
                s.lamps.add(lamp.copy());
            }
            for (int[] house : houses) {
                s.houses.add(house.clone());
            }
            for (Walker walker : walkers) {
                s.walkers.add(walker.copy());
            }
            return s;
        }
    }

    private State s = new State();
    private final State[] slots = new State[2];
    private final Deque<State> history = new ArrayDeque<>();
    private String pad = "";
    private boolean recording = true;
    // Of the tick that passes.
    private List<Lamp> coughed = new ArrayList<>();
    private List<Lamp> anew = new ArrayList<>();

    private void record() {
        if (recording) {
            history.addLast(s.copy());
            if (history.size() > 6) {
                history.removeFirst();
            }
        }
    }

    int set(int setting, int value) {
        int[][] ranges = {{0, 20}, {1, 60}, {1, 50}, {0, 50}, {1, 10}, {0, 6}};
        if (setting < 0 || setting > 5 || value < ranges[setting][0] || value > ranges[setting][1]) {
            return BAD_VALUE;
        }
        record();
        int was = s.settings[setting];
        s.settings[setting] = value;
        return was;
    }

    int lamp(int step, int shine) {
        if (step < 0 || step > 99 || shine < 1 || shine > 30) {
            return BAD_VALUE;
        }
        if (s.lamps.size() == 16) {
            return TOO_MANY;
        }
        if (s.lamps.stream().anyMatch(l -> l.step == step)) {
            return NOT_POSSIBLE;
        }
        record();
        Lamp lamp = new Lamp();
        lamp.step = step;
        lamp.shine = shine;
        s.lamps.add(lamp);
        return s.lamps.size() - 1;
    }

    int house(int step) {
        if (step < 0 || step > 99) {
            return BAD_VALUE;
        }
        if (s.houses.size() == 8) {
            return TOO_MANY;
        }
        record();
        s.houses.add(new int[] {step, 0});
        return s.houses.size() - 1;
    }

    int walker(int step, int pace) {
        if (step < 0 || step > 99 || pace < 1 || pace > 4) {
            return BAD_VALUE;
        }
        if (s.walkers.size() == 8) {
            return TOO_MANY;
        }
        record();
        Walker walker = new Walker();
        walker.step = step;
        walker.pace = pace;
        s.walkers.add(walker);
        return s.walkers.size() - 1;
    }

    int goal(int walker, int step, int pause) {
        if (walker < 0 || walker >= s.walkers.size()) {
            return NO_SUCH;
        }
        if (step < 0 || step > 99 || pause < 0 || pause > 20) {
            return BAD_VALUE;
        }
        if (s.walkers.get(walker).goals.size() == 6) {
            return TOO_MANY;
        }
        if (s.walkers.get(walker).isHome()) {
            return NOT_POSSIBLE;
        }
        record();
        Walker w = s.walkers.get(walker);
        w.goals.add(new int[] {step, pause});
        w.hadGoal = true;
        return w.goals.size();
    }

    int mend(int lamp, int how) {
        if (lamp < 0 || lamp >= s.lamps.size()) {
            return NO_SUCH;
        }
        if (how < 0 || how > 2) {
            return BAD_VALUE;
        }
        record();
        Lamp l = s.lamps.get(lamp);
        int was = l.how;
        l.how = how;
        if (how == 2) {
            l.does = 0;
            l.wait = null;
        }
        return was;
    }

    int cough(int lamp) {
        if (lamp < 0 || lamp >= s.lamps.size()) {
            return NO_SUCH;
        }
        if (s.lamps.get(lamp).how == 2) {
            return NOT_POSSIBLE;
        }
        record();
        coughed = new ArrayList<>();
        return coughs(s.lamps.get(lamp), 0);
    }

    private List<Lamp> whoHear(Lamp who) {
        List<Lamp> all = new ArrayList<>();
        for (Lamp lamp : s.lamps) {
            if (lamp != who && lamp.how != 2 && Math.abs(lamp.step - who.step) <= s.settings[1]) {
                all.add(lamp);
            }
        }
        return all;
    }

    private int coughs(Lamp who, int rank) {
        who.coughs++;
        for (Lamp lamp : whoHear(who)) {
            lamp.heard++;
            becomeLit(lamp);
            if (rank < s.settings[5] && lamp.wait == null && !coughed.contains(lamp)) {
                lamp.wait = s.settings[4];
                lamp.rank = rank + 1;
            }
        }
        return whoHear(who).size();
    }

    private void becomeLit(Lamp lamp) {
        lamp.does = 2;
        lamp.left = s.settings[2];
        anew.add(lamp);
    }

    int ticks(int ticks) {
        if (ticks < 1 || ticks > 200) {
            return BAD_VALUE;
        }
        record();
        for (int i = 0; i < ticks; i++) {
            tick();
        }
        return s.tick;
    }

    private void tick() {
        coughed = new ArrayList<>();
        anew = new ArrayList<>();
        for (Walker walker : s.walkers) {
            step1(walker);
        }
        step2();
        step3();
        step4();
        step5();
        s.tick++;
    }

    private static void step1(Walker walker) {
        if (walker.goals.isEmpty()) {
            return;
        }
        int[] goal = walker.goals.get(0);
        boolean done = false;
        if (walker.rested != null) {
            walker.rested++;
            done = walker.rested == goal[1];
        } else {
            for (int i = 0; i < walker.pace && walker.step != goal[0]; i++) {
                walker.step += walker.step < goal[0] ? 1 : -1;
                walker.walked++;
            }
            if (walker.step == goal[0]) {
                done = goal[1] == 0;
                walker.rested = 0;
            }
        }
        if (done) {
            walker.goals.remove(0);
            walker.rested = null;
        }
    }

    private void step2() {
        List<Lamp> due = new ArrayList<>();
        for (Lamp lamp : s.lamps) {
            if (lamp.wait != null) {
                lamp.wait = lamp.wait - 1;
                if (lamp.wait == 0) {
                    due.add(lamp);
                    lamp.wait = null;
                }
            }
        }
        coughed.addAll(due);
        for (Lamp lamp : due) {
            coughs(lamp, lamp.rank);
        }
    }

    private void step3() {
        List<Lamp> lit = new ArrayList<>();
        for (Lamp lamp : s.lamps) {
            if (lamp.does == 2) {
                lit.add(lamp);
            }
        }
        for (Lamp lamp : s.lamps) {
            boolean sees = lamp.how == 0
                && s.walkers.stream().anyMatch(w -> !w.isHome() && Math.abs(w.step - lamp.step) <= s.settings[0]);
            if (sees) {
                becomeLit(lamp);
                if (!lit.contains(lamp)) {
                    lamp.wait = null;
                    coughed.add(lamp);
                    coughs(lamp, 0);
                }
            }
        }
    }

    private void step4() {
        for (Lamp lamp : s.lamps) {
            int was = lamp.does;
            if (was == 2 && !anew.contains(lamp)) {
                lamp.left--;
                if (lamp.left == 0) {
                    lamp.does = s.settings[3] == 0 ? 0 : 1;
                    lamp.left = s.settings[3];
                }
            }
            if (was == 1) {
                lamp.left--;
                if (lamp.left == 0) {
                    lamp.does = 0;
                }
            }
        }
    }

    private void step5() {
        for (Lamp lamp : s.lamps) {
            lamp.light += new int[] {0, 1, 4}[lamp.does];
        }
        for (Walker walker : s.walkers) {
            if (!walker.isHome() && lightAt(walker.step) == 0) {
                walker.dark++;
                s.lamps.stream().min(Comparator.comparingInt(l -> Math.abs(l.step - walker.step)))
                    .ifPresent(l -> l.blamed++);
            }
        }
        for (int[] house : s.houses) {
            house[1] += disturbed(house) ? 1 : 0;
        }
    }

    private boolean disturbed(int[] house) {
        return s.lamps.stream().anyMatch(l -> l.does == 2 && Math.abs(l.step - house[0]) <= l.shine / 3);
    }

    int ofLamp(int lamp, int what) {
        if (lamp < 0 || lamp >= s.lamps.size()) {
            return NO_SUCH;
        }
        if (what < 0 || what > 10) {
            return BAD_VALUE;
        }
        Lamp l = s.lamps.get(lamp);
        return new int[] {l.step, l.shine, l.does, l.how, l.does == 0 ? 0 : l.left, l.wait == null ? NONE : l.wait,
            l.wait == null ? NONE : l.rank, l.light, l.coughs, l.heard, l.blamed}[what];
    }

    int ofWalker(int walker, int what) {
        if (walker < 0 || walker >= s.walkers.size()) {
            return NO_SUCH;
        }
        if (what < 0 || what > 8) {
            return BAD_VALUE;
        }
        Walker w = s.walkers.get(walker);
        return new int[] {w.step, w.pace, w.isHome() ? 1 : 0, w.goals.isEmpty() ? NONE : w.goals.get(0)[0], w.goals.size(),
            w.rested == null ? NONE : w.rested, w.dark, w.isHome() || lightAt(w.step) == 0 ? 0 : 1, w.walked}[what];
    }

    int ofHouse(int house, int what) {
        if (house < 0 || house >= s.houses.size()) {
            return NO_SUCH;
        }
        if (what < 0 || what > 2) {
            return BAD_VALUE;
        }
        int[] h = s.houses.get(house);
        return new int[] {h[0], disturbed(h) ? 1 : 0, h[1]}[what];
    }

    int lightAt(int step) {
        if (step < 0 || step > 99) {
            return NO_SUCH;
        }
        int set = 0;
        for (int i = 0; i < s.lamps.size(); i++) {
            Lamp l = s.lamps.get(i);
            int far = Math.abs(l.step - step);
            if (l.does == 2 && far <= l.shine || l.does == 1 && far <= l.shine / 2) {
                set += 1 << i;
            }
        }
        return set;
    }

    int hearers(int lamp) {
        if (lamp < 0 || lamp >= s.lamps.size()) {
            return NO_SUCH;
        }
        int set = 0;
        if (s.lamps.get(lamp).how != 2) {
            for (Lamp hearer : whoHear(s.lamps.get(lamp))) {
                set += 1 << s.lamps.indexOf(hearer);
            }
        }
        return set;
    }

    int count(int what) {
        if (what < 0 || what > 18) {
            return BAD_VALUE;
        }
        int[] c = s.settings;
        return new int[] {s.tick, s.lamps.size(), s.houses.size(), s.walkers.size(),
            (int) s.walkers.stream().filter(w -> !w.isHome()).count(),
            (int) s.lamps.stream().filter(l -> l.does == 2).count(), (int) s.lamps.stream().filter(l -> l.does == 1).count(),
            total(1), total(0), total(2), total(3), c[0], c[1], c[2], c[3], c[4], c[5], pad.length(), history.size()}[what];
    }

    /** Dark ticks, units of light, disturbed ticks, coughs. */
    private int total(int what) {
        switch (what) {
            case 0: return s.walkers.stream().mapToInt(w -> w.dark).sum();
            case 1: return s.lamps.stream().mapToInt(l -> l.light).sum();
            case 2: return s.houses.stream().mapToInt(h -> h[1]).sum();
            default: return s.lamps.stream().mapToInt(l -> l.coughs).sum();
        }
    }

    int homeIn(int walker) {
        if (walker < 0 || walker >= s.walkers.size()) {
            return NO_SUCH;
        }
        State kept = s;
        s = s.copy();
        int answer = NONE;
        for (int t = 0; t <= 500 && answer == NONE; t++) {
            if (s.walkers.get(walker).isHome()) {
                answer = t;
            }
            tick();
        }
        s = kept;
        return answer;
    }

    /** What so many ticks would bring with this setting of REACH, and with this lamp broken (-1: none). */
    private int[] wouldBring(int ticks, int reach, int broken) {
        State kept = s;
        s = s.copy();
        s.settings[1] = reach;
        if (broken >= 0) {
            s.lamps.get(broken).how = 2;
            s.lamps.get(broken).does = 0;
            s.lamps.get(broken).wait = null;
        }
        int[] all = new int[4];
        for (int what = 0; what < 4; what++) {
            all[what] = -total(what);
        }
        for (int i = 0; i < ticks; i++) {
            tick();
        }
        for (int what = 0; what < 4; what++) {
            all[what] += total(what);
        }
        s = kept;
        return all;
    }

    int brings(int ticks, int what) {
        if (ticks < 1 || ticks > 200 || what < 0 || what > 3) {
            return BAD_VALUE;
        }
        return wouldBring(ticks, s.settings[1], -1)[what];
    }

    int bestReach(int ticks) {
        if (ticks < 1 || ticks > 200) {
            return BAD_VALUE;
        }
        int best = 0;
        int[] bestBrings = {Integer.MAX_VALUE, 0};
        for (int reach = 60; reach >= 1; reach--) {
            int[] b = wouldBring(ticks, reach, -1);
            if (b[0] < bestBrings[0] || b[0] == bestBrings[0] && b[1] <= bestBrings[1]) {
                best = reach;
                bestBrings = b;
            }
        }
        return best;
    }

    int needless() {
        int set = 0;
        for (int lamp = 0; lamp < s.lamps.size(); lamp++) {
            if (wouldBring(100, s.settings[1], lamp)[0] <= wouldBring(100, s.settings[1], -1)[0]) {
                set += 1 << lamp;
            }
        }
        return set;
    }

    int put(long characters) {
        StringBuilder signs = new StringBuilder();
        boolean ended = false;
        for (int i = 0; i < 64; i += 8) {
            int code = (int) (characters >>> i & 0xff);
            if (code == 0) {
                ended = true;
            } else if (ended || code < 33 || code > 126) {
                return BAD_VALUE;
            } else {
                signs.insert(0, (char) code);
            }
        }
        if (signs.length() == 0) {
            return BAD_VALUE;
        }
        if (pad.length() + signs.length() > 80) {
            return TOO_MANY;
        }
        pad += signs;
        return pad.length();
    }

    int wipe() {
        int length = pad.length();
        pad = "";
        return length;
    }

    int fault() {
        if (pad.matches(TEXT)) {
            return NONE;
        }
        for (int i = 0; i < pad.length(); i++) {
            if (!canGoOn(pad.substring(0, i + 1))) {
                return i;
            }
        }
        return pad.length();
    }

    private static boolean canGoOn(String start) {
        for (String end : ENDS) {
            if ((start + end).matches(TEXT)) {
                return true;
            }
        }
        return false;
    }

    int carryOut() {
        if (fault() != NONE) {
            return BAD_TEXT;
        }
        record();
        recording = false;
        int done = 0;
        for (String order : pad.split(";")) {
            if (carry(order.charAt(0), order.substring(1)) < 0) {
                break;
            }
            done++;
        }
        recording = true;
        pad = "";
        return done;
    }

    private int carry(char kind, String rest) {
        if (kind == 'c') {
            return cough(Integer.parseInt(rest));
        }
        if (kind == 't') {
            return ticks(Integer.parseInt(rest));
        }
        if (kind == 'm') {
            String[] two = rest.split("=");
            return mend(Integer.parseInt(two[0]), Integer.parseInt(two[1]));
        }
        String[] parts = rest.split(">");
        String[] two = parts[0].split("/");
        int walker = walker(Integer.parseInt(two[0]), Integer.parseInt(two[1]));
        int answer = walker;
        for (int i = 1; i < parts.length && answer >= 0; i++) {
            String[] goal = parts[i].split("\\*");
            answer = goal(walker, Integer.parseInt(goal[0]), goal.length == 1 ? 0 : Integer.parseInt(goal[1]));
        }
        return answer;
    }

    int undo() {
        if (history.isEmpty()) {
            return NOT_POSSIBLE;
        }
        s = history.removeLast();
        return history.size();
    }

    int save(int slot) {
        if (slot != 0 && slot != 1) {
            return BAD_VALUE;
        }
        slots[slot] = s.copy();
        return s.tick;
    }

    int restore(int slot) {
        if (slot != 0 && slot != 1) {
            return BAD_VALUE;
        }
        if (slots[slot] == null) {
            return NOT_POSSIBLE;
        }
        record();
        s = slots[slot].copy();
        return s.tick;
    }
}
