import java.util.ArrayList;
import java.util.List;
import java.util.function.ToIntFunction;

/** What the document says about undo and saved states: promises 24 to 26. */
final class SentencesOfHistory extends Sentences {
    private SentencesOfHistory() {
    }

    static void all() {
        undo();
        undoLeavesTheRest();
        historyOfSix();
        whatIsRecorded();
        save();
        saveLeavesTheRest();
        restore();
        restoreAtItsBound();
    }

    /** A call of each method that is a change; none is an error in the busy street. */
    private static List<ToIntFunction<CoughLamps>> changes() {
        List<ToIntFunction<CoughLamps>> all = new ArrayList<>();
        all.add(x -> x.set(CoughLamps.REACH, 60));
        all.add(x -> x.lamp(77, 30));
        all.add(x -> x.house(11));
        all.add(x -> x.walker(30, 4));
        all.add(x -> x.goal(1, 80, 3));
        all.add(x -> x.mend(1, CoughLamps.BROKEN));
        all.add(x -> x.cough(0));
        all.add(x -> x.ticks(30));
        all.add(x -> x.carryOut());
        all.add(x -> x.restore(0));
        return all;
    }

    // ---- undo

    private static void undo() {
        holds(24, "Undoes the latest change:", () -> {
            List<ToIntFunction<CoughLamps>> changes = changes();
            for (int i = 0; i < changes.size(); i++) {
                CoughLamps x = busyStreet();
                int[] before = look(x);
                Check.holds("change " + i + " is no error", changes.get(i).applyAsInt(x) >= 0);
                Check.holds("change " + i + " is seen", !java.util.Arrays.equals(before, look(x)));
                due("undo() of change " + i, x.undo(), 5);
                same("undo() of change " + i, before, look(x));
                CoughLamps y = busyStreet();
                x.ticks(40);
                y.ticks(40);
                same("what comes then is as if change " + i + " had not been", look(y), look(x));
            }
            CoughLamps z = new CoughLamps();
            for (int eyes = 4; eyes <= 7; eyes++) {
                z.set(CoughLamps.EYES, eyes);
            }
            for (int eyes = 6; eyes >= 3; eyes--) {
                z.undo();
                countDue("the latest first", z, 11, eyes);
            }
        });
        holds(24, "Returns how many changes can be undone then; NOT_POSSIBLE if there is none.", () -> {
            CoughLamps x = new CoughLamps();
            due("a new object", x.undo(), NOT_POSSIBLE);
            x.house(1);
            due("the only one", x.undo(), 0);
            due("none more", x.undo(), NOT_POSSIBLE);
            for (int i = 0; i < 6; i++) {
                x.house(1);
            }
            for (int left = 5; left >= 0; left--) {
                due("one of six", x.undo(), left);
            }
            due("none more", x.undo(), NOT_POSSIBLE);
            due("none more", x.undo(), NOT_POSSIBLE);
        });
        holds(24, CHANGES_NOTHING, () -> {
            refused("undo()", NOT_POSSIBLE, SentencesOfHistory::withoutHistory, x -> x.undo());
            refused("undo() in a new street", NOT_POSSIBLE, CoughLamps::new, x -> x.undo());
        });
    }

    private static CoughLamps withoutHistory() {
        CoughLamps x = busyStreet();
        while (x.count(18) > 0) {
            x.undo();
        }
        return x;
    }

    private static void undoLeavesTheRest() {
        holds(24, "everything except the pad, the slots and the history is as it was before it.", () -> {
            CoughLamps x = new CoughLamps();
            putText(x, "t1");
            x.set(CoughLamps.EYES, 4);
            x.put('2');
            x.undo();
            countDue("the pad stays", x, 17, 3);
            due("the pad stays", x.carryOut(), 1);
            countDue("t12", x, 0, 12);
            x.undo();
            countDue("the pad stays empty", x, 17, 0);
            CoughLamps y = new CoughLamps();
            y.ticks(5);
            y.save(0);
            y.save(1);
            y.ticks(3);
            y.save(1);
            y.undo();
            y.undo();
            countDue("both are undone", y, 0, 0);
            due("slot 1 keeps what was saved later", y.restore(1), 8);
            due("slot 0 keeps what was saved", y.restore(0), 5);
            due("undo() of a restore", y.undo(), 1);
            countDue("the state before it", y, 0, 8);
            due("undo() of a restore", y.undo(), 0);
            countDue("the state before it", y, 0, 0);
            due("slot 1 keeps it", y.restore(1), 8);
            CoughLamps z = new CoughLamps();
            z.house(1);
            z.house(2);
            z.undo();
            countDue("undo() is no change by itself", z, 18, 1);
            z.undo();
            countDue("both are undone", z, 2, 0);
        });
    }

    private static void historyOfSix() {
        holds(24, "A history of at most 6 states is kept:", () -> {
            for (int changes = 0; changes <= 22; changes++) {
                CoughLamps x = new CoughLamps();
                for (int i = 0; i < changes; i++) {
                    x.ticks(1);
                }
                int kept = Math.min(changes, 6);
                countDue(changes + " changes", x, 18, kept);
                for (int i = 1; i <= kept; i++) {
                    due(changes + " changes: undo()", x.undo(), kept - i);
                    countDue(changes + " changes: undo()", x, 0, changes - i);
                }
                due(changes + " changes: undo()", x.undo(), NOT_POSSIBLE);
                countDue(changes + " changes", x, 0, changes - kept);
            }
        });
        holds(24, "when one more is recorded, the oldest one is dropped.", () -> {
            CoughLamps x = new CoughLamps();
            List<Integer> states = new ArrayList<>();
            int eyes = 3;
            for (int i = 0; i < 400; i++) {
                if (i * i % 13 < 6) {
                    due("undo() at " + i, x.undo(), states.isEmpty() ? NOT_POSSIBLE : states.size() - 1);
                    eyes = states.isEmpty() ? eyes : states.remove(states.size() - 1);
                } else {
                    due("set(EYES, " + i % 21 + ")", x.set(CoughLamps.EYES, i % 21), eyes);
                    states.add(eyes);
                    eyes = i % 21;
                    if (states.size() > 6) {
                        states.remove(0);
                    }
                }
            }
            for (int left = states.size(); left > 0; left--) {
                x.undo();
                countDue("in the end", x, 11, states.get(left - 1));
            }
            due("in the end", x.undo(), NOT_POSSIBLE);
        });
    }

    private static void whatIsRecorded() {
        holds(24, "each method that is a change, and returns no error, records the state before it (also if nothing is different then);", () -> {
            List<ToIntFunction<CoughLamps>> changes = changes();
            for (int i = 0; i < changes.size(); i++) {
                isChange("change " + i, Sentences::busyStreet, changes.get(i));
            }
            CoughLamps x = lampsAt(10);
            x.save(0);
            x.set(CoughLamps.EYES, 3);
            countDue("set() to what it is", x, 18, 2);
            x.mend(0, CoughLamps.WELL);
            countDue("mend() to how it is", x, 18, 3);
            x.restore(0);
            countDue("restore() of what is", x, 18, 4);
            carried(x, "m0=0");
            countDue("carryOut() of nothing new", x, 18, 5);
            carried(x, "c1");
            countDue("carryOut() of no order", x, 18, 6);
            for (int left = 5; left >= 1; left--) {
                due("each is undone by itself", x.undo(), left);
                countDue("the lamp stays", x, 1, 1);
            }
            due("the lamp is undone", x.undo(), 0);
            countDue("the lamp is undone", x, 1, 0);
        });
        holds(24, "records the state before it", () -> {
            CoughLamps x = lampsAt(10, 20);
            x.walker(50, 1);
            x.put('t');
            x.wipe();
            x.fault();
            x.save(0);
            x.homeIn(0);
            x.brings(5, 0);
            x.bestReach(5);
            x.needless();
            look(x);
            countDue("what is no change records nothing", x, 18, 3);
            int[] errors = {x.set(6, 0), x.lamp(10, 1), x.house(100), x.walker(0, 0), x.goal(1, 0, 0), x.mend(2, 0), x.cough(2),
                x.ticks(0), x.carryOut(), x.restore(1), x.restore(2), x.save(2), x.put(0)};
            for (int i = 0; i < errors.length; i++) {
                Check.holds("call " + i + " is an error", errors[i] < 0 && errors[i] != NONE);
            }
            countDue("an error records nothing", x, 18, 3);
            x.undo();
            countDue("the walker was the latest change", x, 3, 0);
        });
        holds(24, "An order of a text records nothing by itself.", () -> {
            CoughLamps x = lampsAt(10);
            due("5 orders", carried(x, "t1;c0;m0=1;w1/1>2>3;t2"), 5);
            countDue("one change", x, 18, 2);
            due("undo()", x.undo(), 1);
            countDue("all of them are undone", x, 0, 0);
            countDue("all of them are undone", x, 3, 0);
            lampDue("all of them are undone", x, 0, 3, CoughLamps.WELL);
            lampDue("all of them are undone", x, 0, 8, 0);
            CoughLamps y = new CoughLamps();
            y.house(1);
            due("27 orders", carried(y, "t1;".repeat(26) + "t1"), 27);
            y.undo();
            due("the state ahead of the text is the only one", y.undo(), 0);
            countDue("the house is undone", y, 2, 0);
        });
    }

    // ---- save

    private static void save() {
        holds(25, "Saves everything except the pad, the history and the slots in a slot,", () -> {
            for (int slot = 0; slot <= 1; slot++) {
                List<ToIntFunction<CoughLamps>> changes = changes();
                for (int i = 0; i < changes.size(); i++) {
                    CoughLamps x = busyStreet();
                    int[] before = look(x);
                    due("save(" + slot + ")", x.save(slot), 5);
                    changes.get(i).applyAsInt(x);
                    due("restore(" + slot + ")", x.restore(slot), 5);
                    same("restored after change " + i, before, look(x));
                    x.ticks(40);
                    CoughLamps y = busyStreet();
                    y.ticks(40);
                    same("what comes then is as if change " + i + " had not been", look(y), look(x));
                }
            }
        });
        holds(25, "and overwrites what was saved there.", () -> {
            CoughLamps x = new CoughLamps();
            for (int tick = 1; tick <= 4; tick++) {
                x.ticks(1);
                due("save(0)", x.save(0), tick);
            }
            x.save(1);
            x.ticks(1);
            due("save(0)", x.save(0), 5);
            x.ticks(1);
            due("the last one", x.restore(0), 5);
            due("the other slot keeps its own", x.restore(1), 4);
            due("save(0) of an earlier tick", x.save(0), 4);
            due("the last one", x.restore(0), 4);
        });
        holds(25, "- `slot`: 0 or 1", () -> {
            CoughLamps x = new CoughLamps();
            due("save(-1)", x.save(-1), BAD_VALUE);
            due("save(0)", x.save(0), 0);
            due("save(1)", x.save(1), 0);
            due("save(2)", x.save(2), BAD_VALUE);
        });
        holds(25, "Returns the tick; BAD_VALUE if there is no such slot.", () -> {
            CoughLamps x = new CoughLamps();
            x.ticks(200);
            x.ticks(7);
            due("save(0)", x.save(0), 207);
            due("save(1)", x.save(1), 207);
            for (int wrong : WRONG) {
                due("save(" + wrong + ")", x.save(wrong), BAD_VALUE);
            }
        });
        holds(25, CHANGES_NOTHING, () -> {
            refused("save(-1)", BAD_VALUE, Sentences::busyStreet, x -> x.save(-1));
            refused("save(2)", BAD_VALUE, Sentences::busyStreet, x -> x.save(2));
        });
    }

    private static void saveLeavesTheRest() {
        holds(25, "except the pad, the history and the slots", () -> {
            CoughLamps x = busyStreet();
            int[] before = look(x);
            x.save(1);
            same("the street stays", before, look(x));
            countDue("the pad stays", x, 17, 5);
            countDue("the history stays: this is no change", x, 18, 5);
            x.put('0');
            x.ticks(1);
            x.restore(1);
            countDue("the pad is not saved", x, 17, 6);
            countDue("the history is not saved: two changes more, but at most 6", x, 18, 6);
            CoughLamps y = new CoughLamps();
            y.save(0);
            y.ticks(1);
            y.save(1);
            y.restore(0);
            due("slot 1 is not saved in slot 0", y.restore(1), 1);
            CoughLamps z = new CoughLamps();
            z.house(1);
            z.save(0);
            due("undo() does not stop at save()", z.undo(), 0);
            countDue("the house is undone", z, 2, 0);
            due("what was saved stays", z.restore(0), 0);
            countDue("what was saved stays", z, 2, 1);
        });
    }

    // ---- restore

    private static void restore() {
        holds(26, "Restores what was saved last in a slot, which keeps it.", () -> {
            for (int slot = 0; slot <= 1; slot++) {
                CoughLamps x = busyStreet();
                x.save(slot);
                int[] saved = look(x);
                for (int again = 0; again < 2; again++) {
                    x.ticks(20);
                    x.mend(0, CoughLamps.BROKEN);
                    x.set(CoughLamps.EYES, 20);
                    due("restore(" + slot + ")", x.restore(slot), 5);
                    same("restore(" + slot + ")", saved, look(x));
                }
                due("what is there already", x.restore(slot), 5);
                same("what is there already", saved, look(x));
            }
            CoughLamps y = new CoughLamps();
            y.save(0);
            y.lamp(10, 5);
            y.lamp(20, 5);
            y.house(10);
            y.walker(30, 1);
            y.goal(0, 31, 1);
            y.cough(0);
            y.cough(1);
            y.ticks(1);
            y.walker(1, 1);
            y.goal(1, 1, 9);
            y.ticks(1);
            y.mend(0, CoughLamps.BROKEN);
            lampDue("the other one is LIT", y, 1, 2, CoughLamps.LIT);
            walkerDue("the other one rests", y, 1, 5, 0);
            lampDue("it is BROKEN", y, 0, 3, CoughLamps.BROKEN);
            Check.holds("it has used light", y.ofLamp(0, 7) > 0);
            Check.holds("it has coughed", y.ofLamp(0, 8) > 0);
            Check.holds("it has heard", y.ofLamp(0, 9) > 0);
            Check.holds("it was to blame", y.ofLamp(0, 10) > 0);
            walkerDue("is home", y, 0, 2, 1);
            Check.holds("was in the dark", y.ofWalker(0, 6) > 0);
            Check.holds("has walked", y.ofWalker(0, 8) > 0);
            houseDue("was disturbed", y, 0, 2, 2);
            y.restore(0);
            for (int what = 0; what <= 10; what++) {
                countDue("a smaller street", y, what, 0);
            }
            y.house(10);
            int[] lamp = {70, 5, 0, 0, 0, NONE, NONE, 0, 0, 0, 0};
            int[] walker = {70, 1, 0, NONE, 0, NONE, 0, 0, 0};
            for (int i = 0; i < 2; i++) {
                y.lamp(70 + i, 5);
                y.walker(70 + i, 1);
                for (int what = 0; what < lamp.length; what++) {
                    lampDue("nothing is left of the one that was", y, i, what, what == 0 ? 70 + i : lamp[what]);
                }
                for (int what = 0; what < walker.length; what++) {
                    walkerDue("nothing is left of the one who was", y, i, what, what == 0 ? 70 + i : walker[what]);
                }
            }
            houseDue("nothing is left of the one that was", y, 0, 2, 0);
            due("the slot keeps it", y.restore(0), 0);
            countDue("the slot keeps it", y, 1, 0);
        });
        holds(26, IS_A_CHANGE, () -> {
            isChange("restore(0)", Sentences::busyStreet, x -> x.restore(0));
            CoughLamps x = new CoughLamps();
            x.save(1);
            x.ticks(4);
            due("restore(1)", x.restore(1), 0);
            countDue("one change more", x, 18, 2);
            due("undo()", x.undo(), 1);
            countDue("as it was before it", x, 0, 4);
        });
    }

    private static void restoreAtItsBound() {
        holds(26, "- `slot`: 0 or 1", () -> {
            CoughLamps x = new CoughLamps();
            x.ticks(3);
            x.save(0);
            x.ticks(1);
            x.save(1);
            due("restore(-1)", x.restore(-1), BAD_VALUE);
            due("restore(2)", x.restore(2), BAD_VALUE);
            due("restore(0)", x.restore(0), 3);
            due("restore(1)", x.restore(1), 4);
        });
        holds(26, "Returns the tick then; BAD_VALUE if there is no such slot; NOT_POSSIBLE if nothing was saved in it.", () -> {
            CoughLamps x = new CoughLamps();
            due("nothing in slot 0", x.restore(0), NOT_POSSIBLE);
            due("nothing in slot 1", x.restore(1), NOT_POSSIBLE);
            for (int wrong : WRONG) {
                due("restore(" + wrong + ")", x.restore(wrong), BAD_VALUE);
            }
            x.ticks(9);
            x.save(1);
            due("nothing in slot 0 yet", x.restore(0), NOT_POSSIBLE);
            x.ticks(1);
            due("restore(1)", x.restore(1), 9);
            x.undo();
            x.undo();
            x.undo();
            due("a save is not undone", x.restore(1), 9);
            due("nothing in slot 0 yet", x.restore(0), NOT_POSSIBLE);
        });
        holds(26, CHANGES_NOTHING, () -> {
            refused("restore(-1)", BAD_VALUE, Sentences::busyStreet, x -> x.restore(-1));
            refused("restore(2)", BAD_VALUE, Sentences::busyStreet, x -> x.restore(2));
            refused("restore(1)", NOT_POSSIBLE, Sentences::busyStreet, x -> x.restore(1));
        });
    }
}
