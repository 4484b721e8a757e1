/** "Undo, the snapshot" and the promises 18 to 21, at none, at six and beyond; and what each call saves, or does not. */
public final class UndoEdgesTest {
    private static final String SMALL = "v2;m3,2;c1,1<4;c1,3<6";

    private UndoEdgesTest() {
    }

    public static void main(String[] args) {
        preparedDesks();
        eachUndoableCall();
        undoableThatChangesNothing();
        callsThatSaveNothing();
        sixStates();
        refusedWithSixStates();
        undoOfUndo();
        bufferIsNoPart();
        savedStatesAreNoPart();
        snapshotIsNoPart();
        whatAStateHolds();
        idlePivotsOfAState();
        keepTakesTheLatest();
        keepIsACopy();
        savedStateIsACopy();
        restoreTwice();
        restoreAnswers();
        restoreWithSixStates();
        fiveHundredChanges();
        Check.end("UndoEdgesTest");
    }

    // The tests below rest on these desks.
    private static void preparedDesks() {
        Check.begin("the prepared desks");
        for (int states = 0; states <= 6; states++) {
            SimplexDesk desk = Twins.prepared(states);
            Check.same("savedStates", desk.savedStates(), states);
            Check.same("a step is possible", desk.pivotsLeft() > 0, true);
        }
    }

    // "Each method that is marked "undoable" .. saves the state from before it"; "at most 6 states are saved".
    private static void eachUndoableCall() {
        Check.begin("undoable calls");
        for (int states = 0; states <= 6; states++) {
            int profit = states == 0 ? 3 : 9 - Math.min(5, states);
            Twins.undoable(states, "setVariables", 3, desk -> desk.setVariables(1));
            Twins.undoable(states, "setVariables to more", 3, desk -> desk.setVariables(4));
            Twins.undoable(states, "setProfit", profit, desk -> desk.setProfit(2, -9));
            Twins.undoable(states, "addConstraint", 3, desk -> desk.addConstraint(99));
            Twins.undoable(states, "setCoefficient", 4, desk -> desk.setCoefficient(2, 1, 9));
            Twins.undoable(states, "setBound", 11, desk -> desk.setBound(1, 0));
            Twins.undoable(states, "dropConstraint", 2, desk -> desk.dropConstraint(0));
            boolean begun = states > 0 && states < 6;
            Twins.undoable(states, "begin", begun ? 0 : 1, SimplexDesk::begin);
            Twins.undoable(states, "step", Twins.prepared(states).nextColumn(), SimplexDesk::step);
            Twins.undoable(states, "solve", Twins.prepared(states).pivotsLeft(), SimplexDesk::solve);
            Twins.undoable(states, "setRule", 1, desk -> desk.setRule(2));
            Twins.undoable(states, "load", 2, SimplexDesk::load);
            Twins.undoable(states, "restore", 2, SimplexDesk::restore);
            Twins.undoable(states, "pivot", Twins.prepared(states).columnOf(Twins.prepared(states).nextRow()),
                    desk -> desk.pivot(desk.nextRow(), desk.nextColumn()));
        }
    }

    // "(also if it changes nothing)"
    private static void undoableThatChangesNothing() {
        Check.begin("undoable calls that change nothing");
        for (int states = 0; states <= 6; states++) {
            int profit = states == 0 ? 3 : 9 - Math.min(5, states);
            Twins.undoable(states, "setVariables again", 3, desk -> desk.setVariables(3));
            Twins.undoable(states, "setProfit again", profit, desk -> desk.setProfit(2, profit));
            Twins.undoable(states, "setCoefficient again", 4, desk -> desk.setCoefficient(2, 1, 4));
            Twins.undoable(states, "setBound again", 11, desk -> desk.setBound(1, 11));
            Twins.undoable(states, "setRule again", 1, desk -> desk.setRule(1));
        }
        SimplexDesk fresh = new SimplexDesk();
        Check.same("begin", fresh.begin(), 0);
        Check.same("savedStates after begin", fresh.savedStates(), 1);
        Check.same("solve", fresh.solve(), 0);
        Check.same("savedStates after solve", fresh.savedStates(), 2);
        fresh.keep();
        Check.same("restore", fresh.restore(), 0);
        Check.same("savedStates after restore", fresh.savedStates(), 3);
        Check.enter(fresh, "v2;m0,0");
        Check.same("load", fresh.load(), 0);
        Check.same("savedStates after load", fresh.savedStates(), 4);
        SimplexDesk ray = Check.desk(Twins.OPEN);
        Check.same("solve with a ray", ray.solve(), 0);
        Check.same("savedStates after solve with a ray", ray.savedStates(), 2);
    }

    // What is not marked saves no state, and lets none go.
    private static void callsThatSaveNothing() {
        Check.begin("calls that save nothing");
        for (int states = 0; states <= 6; states++) {
            int due = states;
            SimplexDesk desk = Twins.prepared(states);
            desk.keep();
            Check.same("keep", desk.savedStates(), due);
            desk.append('v');
            Check.same("append", desk.savedStates(), due);
            desk.write();
            Check.same("write", desk.savedStates(), due);
            desk.clearBuffer();
            Check.same("clearBuffer", desk.savedStates(), due);
            desk.firstError();
            desk.pivotsLeft();
            desk.solvedNumerator(0, 50);
            desk.solvedDenominator(0, 50);
            desk.feasibleBases();
            desk.digest();
            Check.same("looks", desk.savedStates(), due);
        }
    }

    // "At most 6 states are saved; the oldest one is dropped first."
    private static void sixStates() {
        Check.begin("six states");
        for (int made = 0; made <= 15; made++) {
            SimplexDesk desk = new SimplexDesk();
            for (int change = 1; change <= made; change++) {
                desk.addConstraint(50);
                Check.same("savedStates", desk.savedStates(), Math.min(6, 2 * change - 1));
                desk.setBound(0, change);
                Check.same("savedStates", desk.savedStates(), Math.min(6, 2 * change));
                if (desk.constraints() == 4) {
                    desk.dropConstraint(3);
                }
            }
        }
        SimplexDesk desk = new SimplexDesk();
        for (int change = 1; change <= 8; change++) {
            desk.setProfit(1, change);
        }
        for (int left = 5; left >= 0; left--) {
            Check.same("undo", desk.undo(), left);
            Check.same("savedStates", desk.savedStates(), left);
            Check.same("profitOf(1)", desk.profitOf(1), left + 2);
        }
        Check.text("undo of the seventh", Twins.answer(desk, SimplexDesk::undo), Twins.STATE.getName());
        Check.same("the states before the six are gone", desk.profitOf(1), 2);
    }

    // A refused call saves nothing: with six states, the oldest stays.
    private static void refusedWithSixStates() {
        Check.begin("refused calls with six states");
        SimplexDesk desk = new SimplexDesk();
        for (int change = 1; change <= 6; change++) {
            desk.setProfit(1, change);
        }
        Twins.Use[] refused = {d -> d.setVariables(5), d -> d.setProfit(2, 1), d -> d.setProfit(1, 10),
            d -> d.addConstraint(100), d -> d.setCoefficient(0, 0, 1), d -> d.setBound(0, 1), d -> d.dropConstraint(0),
            d -> d.pivot(0, 0), d -> d.setRule(3), SimplexDesk::step, SimplexDesk::load, SimplexDesk::restore};
        for (Twins.Use use : refused) {
            Check.same("refused", Twins.answer(desk, use).startsWith("java"), true);
            Check.same("savedStates", desk.savedStates(), 6);
        }
        for (int left = 5; left >= 0; left--) {
            desk.undo();
            Check.same("profitOf(1)", desk.profitOf(1), left);
        }
    }

    // "Restores the latest saved state, and drops it": undo saves nothing itself, and cannot be undone.
    private static void undoOfUndo() {
        Check.begin("undo after undo");
        SimplexDesk desk = new SimplexDesk();
        desk.setProfit(0, 1);
        desk.setProfit(0, 2);
        desk.setProfit(0, 3);
        Check.same("undo", desk.undo(), 2);
        Check.same("undo", desk.undo(), 1);
        Check.same("profitOf(0)", desk.profitOf(0), 1);
        desk.setProfit(0, 9);
        Check.same("savedStates", desk.savedStates(), 2);
        Check.same("undo", desk.undo(), 1);
        Check.same("profitOf(0)", desk.profitOf(0), 1);
        Check.same("undo", desk.undo(), 0);
        Check.same("profitOf(0)", desk.profitOf(0), 0);
        desk.setProfit(0, 4);
        Check.same("savedStates after all are undone", desk.savedStates(), 1);
        Check.same("undo", desk.undo(), 0);
        Check.same("profitOf(0)", desk.profitOf(0), 0);
    }

    // "(The buffer .. no part of it.)"
    private static void bufferIsNoPart() {
        Check.begin("the buffer is no part");
        SimplexDesk desk = Check.desk(SMALL);
        desk.keep();
        Check.enter(desk, "v1;m7");
        desk.load();
        Check.same("undo of load", desk.undo(), 1);
        Check.same("load has cleared the buffer, and undo does not bring it back", desk.clearBuffer(), 0);
        desk.setRule(1);
        Check.enter(desk, "v1;m8");
        desk.undo();
        Check.same("undo leaves what came later", desk.firstError(), 5);
        desk.restore();
        Check.same("restore leaves it too", desk.clearBuffer(), 5);
        desk.write();
        desk.undo();
        Check.same("undo does not undo write", desk.clearBuffer(), SMALL.length());
        desk.restore();
        Check.same("the snapshot has no buffer", desk.clearBuffer(), 0);
    }

    // "(.. the saved states .. no part of it.)": restore brings no saved states back, and takes none away.
    private static void savedStatesAreNoPart() {
        Check.begin("the saved states are no part");
        SimplexDesk desk = Check.desk(SMALL);
        desk.step();
        desk.keep();
        desk.undo();
        desk.undo();
        Check.same("restore", desk.restore(), 1);
        Check.same("savedStates", desk.savedStates(), 1);
        desk.setRule(1);
        desk.setRule(2);
        desk.setRule(0);
        Check.same("restore", desk.restore(), 1);
        Check.same("savedStates", desk.savedStates(), 5);
        Check.same("undo", desk.undo(), 4);
        Check.same("undo", desk.undo(), 3);
        Check.same("rule", desk.rule(), 2);
    }

    // "(.. the snapshot are no part of it.)": undo brings no former snapshot back.
    private static void snapshotIsNoPart() {
        Check.begin("the snapshot is no part");
        SimplexDesk desk = new SimplexDesk();
        desk.keep();
        desk.setProfit(0, 5);
        desk.keep();
        desk.undo();
        Check.same("profitOf(0)", desk.profitOf(0), 0);
        desk.restore();
        Check.same("profitOf(0) of the latest snapshot", desk.profitOf(0), 5);
        SimplexDesk first = new SimplexDesk();
        first.setProfit(0, 5);
        first.keep();
        first.undo();
        Check.same("a snapshot stays when the state before it comes back", first.restore(), 0);
        Check.same("profitOf(0)", first.profitOf(0), 5);
    }

    // "the problem, the rule, the basis and the counts"
    private static void whatAStateHolds() {
        Check.begin("what a state holds");
        SimplexDesk desk = Check.desk("v2;m1,1;c1,0<0;c0,1<5", 1);
        desk.solve();
        String before = Twins.state(desk);
        Check.text("the state", before, "rule 1, pivots 2 of 2, idle 1, profits 1 1; row of 0: 1 0 < 0; row of 1: 0 1 < 5");
        desk.keep();
        Check.enter(desk, "v4;m1,2,3,4;c1,1,1,1<0;c9,9,9,9<9;c1,2,3,4<50");
        desk.load();
        desk.setRule(2);
        desk.solve();
        Check.same("more pivots", desk.allPivots() > 2, true);
        desk.restore();
        Check.text("restore", Twins.state(desk), before);
        desk.undo();
        desk.undo();
        desk.undo();
        desk.undo();
        Check.text("undo", Twins.state(desk), before);
    }

    private static void idlePivotsOfAState() {
        Check.begin("the idle pivots of a state");
        SimplexDesk desk = Check.desk("v2;m1,1;c1,0<0;c0,1<5");
        desk.keep();
        desk.step();
        Check.same("idlePivots", desk.idlePivots(), 1);
        Check.same("undo", desk.undo(), 1);
        Check.same("idlePivots after undo", desk.idlePivots(), 0);
        desk.solve();
        desk.begin();
        desk.solve();
        Check.same("idlePivots", desk.idlePivots(), 2);
        Check.same("undo", desk.undo(), 3);
        Check.same("idlePivots after undo", desk.idlePivots(), 1);
        Check.same("restore", desk.restore(), 0);
        Check.same("idlePivots after restore", desk.idlePivots(), 0);
        Check.same("undo", desk.undo(), 3);
        Check.same("idlePivots after undo of restore", desk.idlePivots(), 1);
    }

    // keep: "Takes a snapshot, in place of the one before."
    private static void keepTakesTheLatest() {
        Check.begin("keep in place of the one before");
        SimplexDesk desk = Check.desk(Twins.THREE);
        Check.same("keep", desk.keep(), 0);
        desk.step();
        Check.same("keep after a pivot", desk.keep(), 1);
        desk.step();
        Check.same("restore", desk.restore(), 1);
        Check.same("pivots", desk.pivots(), 1);
        desk.begin();
        Check.same("keep counts former bases", desk.keep(), 1);
        desk.solve();
        Check.same("keep counts all", desk.keep(), 3);
        Check.same("restore of now", desk.restore(), 3);
        Check.same("isOptimal", desk.isOptimal(), true);
    }

    // The snapshot stays as it was taken, whatever is done with the desk.
    private static void keepIsACopy() {
        Check.begin("the snapshot stays");
        SimplexDesk desk = Check.desk(Twins.THREE);
        desk.step();
        desk.keep();
        String kept = Twins.state(desk);
        desk.step();
        desk.setProfit(0, 1);
        desk.setCoefficient(0, 0, 9);
        desk.setBound(0, 9);
        desk.dropConstraint(1);
        desk.setVariables(1);
        desk.restore();
        Check.text("restore", Twins.state(desk), kept);
        desk.step();
        desk.setProfit(0, 1);
        desk.setVariables(4);
        desk.restore();
        Check.text("restore of a snapshot that was restored before", Twins.state(desk), kept);
    }

    // A saved state stays as it was, whatever is done with the desk after undo and restore.
    private static void savedStateIsACopy() {
        Check.begin("a saved state stays");
        SimplexDesk desk = Check.desk(Twins.THREE);
        desk.keep();
        String[] due = new String[5];
        for (int index = 0; index < 5; index++) {
            due[index] = Twins.state(desk);
            if (index % 2 == 0) {
                desk.step();
            } else {
                desk.restore();
                desk.setProfit(0, index);
                desk.undo();
            }
        }
        for (int index = 4; index >= 0; index--) {
            desk.undo();
            Check.text("undo", Twins.state(desk), due[index]);
        }
    }

    // restore: "Restores the state of the snapshot, which stays."
    private static void restoreTwice() {
        Check.begin("restore again");
        SimplexDesk desk = Twins.prepared(0);
        String first = Twins.answer(desk, SimplexDesk::restore);
        String state = Twins.state(desk);
        Check.text("restore", first, "2");
        for (int again = 2; again <= 8; again++) {
            desk.setRule(again % 3);
            Check.text("restore again", Twins.answer(desk, SimplexDesk::restore), first);
            Check.text("the state", Twins.state(desk), state);
            Check.same("savedStates", desk.savedStates(), Math.min(6, 2 * again - 1));
        }
    }

    // keep and restore tell all pivots, of former bases too, and not those since the basis was begun.
    private static void restoreAnswers() {
        Check.begin("what restore answers");
        SimplexDesk desk = Check.desk(Twins.THREE);
        desk.solve();
        desk.begin();
        desk.step();
        Check.same("keep", desk.keep(), 3);
        desk.solve();
        Check.same("allPivots", desk.allPivots(), 4);
        Check.same("restore", desk.restore(), 3);
        Check.same("allPivots", desk.allPivots(), 3);
        Check.same("pivots", desk.pivots(), 1);
        desk.undo();
        Check.same("allPivots after undo", desk.allPivots(), 4);
    }

    // restore with six states lets the oldest go, not the latest.
    private static void restoreWithSixStates() {
        Check.begin("restore with six states");
        SimplexDesk desk = new SimplexDesk();
        desk.keep();
        for (int change = 1; change <= 6; change++) {
            desk.setProfit(0, change);
        }
        Check.same("restore", desk.restore(), 0);
        Check.same("profitOf(0)", desk.profitOf(0), 0);
        for (int left = 5; left >= 0; left--) {
            Check.same("undo", desk.undo(), left);
            Check.same("profitOf(0)", desk.profitOf(0), left + 1);
        }
    }

    // "An object is used for at most 512 calls after it has been made": the last ones answer like the first ones.
    private static void fiveHundredChanges() {
        Check.begin("undo after 500 calls");
        SimplexDesk desk = new SimplexDesk();
        desk.keep();
        int before = 0;
        for (int change = 1; change <= 504; change++) {
            int profit = change % 19 - 9;
            Check.same("setProfit", desk.setProfit(1, profit), before);
            before = profit;
        }
        for (int left = 5; left >= 0; left--) {
            Check.same("undo", desk.undo(), left);
        }
        Check.same("profitOf(1) in the call 512", desk.profitOf(1), 498 % 19 - 9);
        SimplexDesk turns = Check.desk(SMALL);
        String first = Twins.state(turns);
        turns.keep();
        for (int turn = 0; turn < 220; turn++) {
            Check.same("step", turns.step(), 0);
            Check.same("restore", turns.restore(), 0);
        }
        Check.text("the snapshot", Twins.state(turns), first);
        Check.same("undo", turns.undo(), 5);
        Check.same("allPivots", turns.allPivots(), 1);
    }
}
