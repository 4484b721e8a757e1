import java.util.ArrayList;
import java.util.List;

/** Each promise by itself: ordinary calls, the edges that the document names, and wrong arguments. */
public final class PromisesTest {
    // Optimal at 12 after the pivot (0, 0); by the pivot (1, 1) it gets thirds.
    private static final String SMALL = "v2;m3,2;c1,1<4;c1,3<6";
    // Optimal at 13 after two pivots, at 25/2 after one.
    private static final String THREE = "v3;m5,4,3;c2,3,1<5;c4,1,2<11;c3,4,2<8";
    // The column 0 is a ray from the start; after the pivot (0, 1) it is one with halves.
    private static final String OPEN = "v2;m1,1;c-3,2<3";
    private static final int LOW = Integer.MIN_VALUE;
    private static final int HIGH = Integer.MAX_VALUE;

    private PromisesTest() {
    }

    public static void main(String[] args) {
        newObject();
        setVariables();
        setProfit();
        addConstraint();
        setCoefficient();
        setBound();
        dropConstraint();
        begin();
        pivot();
        step();
        solve();
        setRule();
        append();
        clearBuffer();
        firstError();
        load();
        write();
        undo();
        keepAndRestore();
        savedStates();
        problemLooks();
        basisLooks();
        counts();
        fractions();
        duals();
        rays();
        allBases();
        whyNoPivot();
        rules();
        pivotsLeft();
        boundsOfNow();
        solved();
        digest();
        limits();
        Check.end("PromisesTest");
    }

    // Promise 1
    private static void newObject() {
        Check.begin("1 a new object");
        SimplexDesk desk = new SimplexDesk();
        Check.same("variables", desk.variables(), 2);
        Check.same("constraints", desk.constraints(), 0);
        Check.same("rule", desk.rule(), 0);
        Check.same("profitOf(0)", desk.profitOf(0), 0);
        Check.same("profitOf(1)", desk.profitOf(1), 0);
        Check.same("pivots", desk.pivots() + desk.allPivots() + desk.idlePivots(), 0);
        Check.same("savedStates", desk.savedStates(), 0);
        Check.same("isOptimal", desk.isOptimal(), true);
        Check.same("hasRay", desk.hasRay(), false);
        Check.refusesState(desk, "restore without a snapshot", desk::restore);
        Check.refusesState(desk, "undo without a saved state", desk::undo);
        Check.same("clearBuffer", desk.clearBuffer(), 0);
        Check.refusesIndex(desk, "isNamed(2)", () -> desk.isNamed(2) ? 1 : 0);
    }

    // Promise 2
    private static void setVariables() {
        Check.begin("2 setVariables");
        SimplexDesk desk = Check.desk(SMALL);
        for (int many : new int[] {0, 5, -1, LOW, HIGH}) {
            Check.refusesArgument(desk, "setVariables(" + many + ")", () -> desk.setVariables(many));
        }
        desk.pivot(0, 0);
        Check.undoable(desk, "setVariables(2) again", 2, () -> desk.setVariables(2));
        Check.same("begun anew", desk.columnOf(0), 2);
        Check.same("pivots", desk.pivots(), 0);
        Check.same("allPivots", desk.allPivots(), 1);
        Check.undoable(desk, "setVariables(1)", 2, () -> desk.setVariables(1));
        Check.same("columnOf(0)", desk.columnOf(0), 1);
        Check.undoable(desk, "setVariables(4)", 1, () -> desk.setVariables(4));
        Check.same("kept profit", desk.profitOf(0), 3);
        Check.same("kept coefficient", desk.coefficientOf(1, 0), 1);
        Check.same("kept bound", desk.boundOf(1), 6);
        for (int variable = 1; variable < 4; variable++) {
            Check.same("new profit", desk.profitOf(variable), 0);
            Check.same("new coefficient", desk.coefficientOf(0, variable), 0);
            Check.same("new coefficient", desk.coefficientOf(1, variable), 0);
        }
        Check.same("columnOf(1)", desk.columnOf(1), 5);
    }

    // Promise 3
    private static void setProfit() {
        Check.begin("3 setProfit");
        SimplexDesk desk = Check.desk(SMALL);
        for (int variable : new int[] {-1, 2, LOW, HIGH}) {
            Check.refusesIndex(desk, "setProfit(" + variable + ", 1)", () -> desk.setProfit(variable, 1));
            Check.refusesIndex(desk, "setProfit(" + variable + ", 10)", () -> desk.setProfit(variable, 10));
        }
        for (int profit : new int[] {-10, 10, LOW, HIGH}) {
            Check.refusesArgument(desk, "setProfit(1, " + profit + ")", () -> desk.setProfit(1, profit));
        }
        desk.pivot(0, 0);
        Check.undoable(desk, "setProfit(1, 9)", 2, () -> desk.setProfit(1, 9));
        Check.same("begun anew", desk.columnOf(0), 2);
        Check.undoable(desk, "setProfit(1, -9)", 9, () -> desk.setProfit(1, -9));
        Check.undoable(desk, "setProfit(1, -9) again", -9, () -> desk.setProfit(1, -9));
        Check.same("profitOf(1)", desk.profitOf(1), -9);
        Check.same("profitOf(0)", desk.profitOf(0), 3);
    }

    // Promise 4
    private static void addConstraint() {
        Check.begin("4 addConstraint");
        SimplexDesk desk = Check.desk(SMALL);
        for (int bound : new int[] {-1, 100, LOW, HIGH}) {
            Check.refusesArgument(desk, "addConstraint(" + bound + ")", () -> desk.addConstraint(bound));
        }
        desk.pivot(0, 0);
        Check.undoable(desk, "addConstraint(0)", 2, () -> desk.addConstraint(0));
        Check.same("begun anew", desk.columnOf(0), 2);
        Check.same("columnOf(2)", desk.columnOf(2), 4);
        Check.undoable(desk, "addConstraint(99)", 3, () -> desk.addConstraint(99));
        Check.same("boundOf(3)", desk.boundOf(3), 99);
        Check.same("coefficientOf(3, 1)", desk.coefficientOf(3, 1), 0);
        Check.refusesState(desk, "addConstraint(5)", () -> desk.addConstraint(5));
        Check.refusesArgument(desk, "addConstraint(100), full", () -> desk.addConstraint(100));
        desk.setCoefficient(3, 0, 7);
        desk.setCoefficient(3, 1, 7);
        desk.dropConstraint(3);
        desk.addConstraint(1);
        Check.same("coefficient of a constraint that came anew", desk.coefficientOf(3, 0), 0);
        Check.same("coefficient of a constraint that came anew", desk.coefficientOf(3, 1), 0);
    }

    // Promise 5
    private static void setCoefficient() {
        Check.begin("5 setCoefficient");
        SimplexDesk desk = Check.desk(SMALL);
        for (int wrong : new int[] {-1, 2, LOW, HIGH}) {
            Check.refusesIndex(desk, "setCoefficient(" + wrong + ", 0, 1)", () -> desk.setCoefficient(wrong, 0, 1));
            Check.refusesIndex(desk, "setCoefficient(0, " + wrong + ", 1)", () -> desk.setCoefficient(0, wrong, 1));
            Check.refusesIndex(desk, "setCoefficient(0, " + wrong + ", 10)", () -> desk.setCoefficient(0, wrong, 10));
        }
        for (int factor : new int[] {-10, 10, LOW, HIGH}) {
            Check.refusesArgument(desk, "setCoefficient(0, 1, " + factor + ")", () -> desk.setCoefficient(0, 1, factor));
        }
        desk.pivot(0, 0);
        Check.undoable(desk, "setCoefficient(1, 0, -9)", 1, () -> desk.setCoefficient(1, 0, -9));
        Check.same("begun anew", desk.columnOf(0), 2);
        Check.undoable(desk, "setCoefficient(1, 0, 9)", -9, () -> desk.setCoefficient(1, 0, 9));
        Check.same("coefficientOf(1, 0)", desk.coefficientOf(1, 0), 9);
        Check.same("coefficientOf(0, 0)", desk.coefficientOf(0, 0), 1);
        Check.same("coefficientOf(1, 1)", desk.coefficientOf(1, 1), 3);
    }

    // Promise 6
    private static void setBound() {
        Check.begin("6 setBound");
        SimplexDesk desk = Check.desk(SMALL);
        for (int wrong : new int[] {-1, 2, LOW, HIGH}) {
            Check.refusesIndex(desk, "setBound(" + wrong + ", 1)", () -> desk.setBound(wrong, 1));
            Check.refusesIndex(desk, "setBound(" + wrong + ", 100)", () -> desk.setBound(wrong, 100));
        }
        for (int bound : new int[] {-1, 100, LOW, HIGH}) {
            Check.refusesArgument(desk, "setBound(0, " + bound + ")", () -> desk.setBound(0, bound));
        }
        desk.pivot(0, 0);
        Check.undoable(desk, "setBound(1, 99)", 6, () -> desk.setBound(1, 99));
        Check.same("begun anew", desk.columnOf(0), 2);
        Check.undoable(desk, "setBound(1, 0)", 99, () -> desk.setBound(1, 0));
        Check.same("boundOf(1)", desk.boundOf(1), 0);
        Check.same("boundOf(0)", desk.boundOf(0), 4);
        Check.fraction("given(3)", desk.givenNumerator(3), desk.givenDenominator(3), "0/1");
    }

    // Promise 7
    private static void dropConstraint() {
        Check.begin("7 dropConstraint");
        SimplexDesk desk = Check.desk(THREE);
        for (int wrong : new int[] {-1, 3, LOW, HIGH}) {
            Check.refusesIndex(desk, "dropConstraint(" + wrong + ")", () -> desk.dropConstraint(wrong));
        }
        desk.step();
        Check.undoable(desk, "dropConstraint(1)", 2, () -> desk.dropConstraint(1));
        Check.same("begun anew", desk.columnOf(0), 3);
        Check.same("moved bound", desk.boundOf(1), 8);
        Check.same("moved coefficient", desk.coefficientOf(1, 0), 3);
        Check.same("moved coefficient", desk.coefficientOf(1, 1), 4);
        Check.same("moved coefficient", desk.coefficientOf(1, 2), 2);
        Check.same("bound before it", desk.boundOf(0), 5);
        Check.undoable(desk, "dropConstraint(0)", 1, () -> desk.dropConstraint(0));
        Check.same("moved bound", desk.boundOf(0), 8);
        Check.undoable(desk, "dropConstraint(0)", 0, () -> desk.dropConstraint(0));
        Check.refusesIndex(desk, "dropConstraint(0), none left", () -> desk.dropConstraint(0));
    }

    // Promise 8
    private static void begin() {
        Check.begin("8 begin");
        SimplexDesk desk = Check.desk(THREE);
        Check.undoable(desk, "begin at the beginning", 0, desk::begin);
        desk.solve();
        Check.undoable(desk, "begin", 2, desk::begin);
        Check.same("columnOf(0)", desk.columnOf(0), 3);
        Check.same("pivots", desk.pivots(), 0);
        Check.same("allPivots", desk.allPivots(), 2);
        Check.fraction("value", desk.valueNumerator(), desk.valueDenominator(), "0/1");
        desk.step();
        Check.same("begin", desk.begin(), 1);
        Check.same("allPivots", desk.allPivots(), 3);
    }

    // Promise 9
    private static void pivot() {
        Check.begin("9 pivot");
        SimplexDesk desk = Check.desk(SMALL);
        for (int wrong : new int[] {-1, 4, LOW, HIGH}) {
            Check.refusesIndex(desk, "pivot(0, " + wrong + ")", () -> desk.pivot(0, wrong));
            Check.refusesIndex(desk, "pivot(" + wrong + ", 0)", () -> desk.pivot(wrong, 0));
        }
        Check.refusesIndex(desk, "pivot(2, 0)", () -> desk.pivot(2, 0));
        Check.refusesState(desk, "pivot(0, 2)", () -> desk.pivot(0, 2));
        Check.refusesState(desk, "pivot(1, 0)", () -> desk.pivot(1, 0));
        Check.undoable(desk, "pivot(1, 1)", 3, () -> desk.pivot(1, 1));
        Check.same("columnOf(1)", desk.columnOf(1), 1);
        Check.same("columnOf(0)", desk.columnOf(0), 2);
        Check.refusesState(desk, "pivot(1, 3), reduced cost below 0", () -> desk.pivot(1, 3));
        Check.undoable(desk, "pivot(0, 0)", 2, () -> desk.pivot(0, 0));
        Check.undoable(desk, "pivot(1, 3)", 1, () -> desk.pivot(1, 3));
        Check.same("pivots", desk.pivots(), 3);
        Check.same("allPivots", desk.allPivots(), 3);
        Check.same("idlePivots", desk.idlePivots(), 0);
        Check.fraction("value", desk.valueNumerator(), desk.valueDenominator(), "12/1");
        SimplexDesk open = Check.desk(OPEN);
        Check.undoable(open, "pivot(0, 1) with a ray", 2, () -> open.pivot(0, 1));
    }

    // Promise 10
    private static void step() {
        Check.begin("10 step");
        SimplexDesk desk = Check.desk(THREE);
        Check.undoable(desk, "step", 0, desk::step);
        Check.same("columnOf(0)", desk.columnOf(0), 0);
        Check.undoable(desk, "step", 2, desk::step);
        Check.same("columnOf(2)", desk.columnOf(2), 2);
        Check.refusesState(desk, "step, optimal", desk::step);
        Check.same("allPivots", desk.allPivots(), 2);
        SimplexDesk open = Check.desk(OPEN);
        Check.refusesState(open, "step, ray", open::step);
    }

    // Promise 11
    private static void solve() {
        Check.begin("11 solve");
        SimplexDesk desk = Check.desk(THREE);
        Check.undoable(desk, "solve", 2, desk::solve);
        Check.same("isOptimal", desk.isOptimal(), true);
        Check.same("pivots", desk.pivots(), 2);
        Check.undoable(desk, "solve, optimal", 0, desk::solve);
        SimplexDesk open = Check.desk(OPEN);
        Check.undoable(open, "solve, ray", 0, open::solve);
        SimplexDesk later = Check.desk("v2;m1,2;c-1,1<3");
        later.setRule(1);
        later.setCoefficient(0, 0, 1);
        later.addConstraint(2);
        later.setCoefficient(1, 0, -1);
        later.setCoefficient(1, 1, 1);
        Check.same("solve", later.solve(), 2);
        SimplexDesk cycle = Twins.cycle(1);
        Check.undoable(cycle, "solve in a cycle", 40, cycle::solve);
        Check.same("isOptimal", cycle.isOptimal(), false);
        Check.same("hasRay", cycle.hasRay(), false);
        Check.same("idlePivots", cycle.idlePivots(), 40);
        Check.same("solve again", cycle.solve(), 40);
        Check.same("allPivots", cycle.allPivots(), 80);
        Check.same("pivots", cycle.pivots(), 80);
        SimplexDesk lowest = Twins.cycle(0);
        Check.same("less than 40 by the rule 0", lowest.solve() < 40, true);
        Check.same("an end by the rule 0", lowest.isOptimal() || lowest.hasRay(), true);
    }

    // Promise 12, 27
    private static void setRule() {
        Check.begin("12 setRule");
        SimplexDesk desk = Check.desk(THREE);
        for (int wrong : new int[] {-1, 3, LOW, HIGH}) {
            Check.refusesArgument(desk, "setRule(" + wrong + ")", () -> desk.setRule(wrong));
        }
        desk.step();
        Check.undoable(desk, "setRule(2)", 0, () -> desk.setRule(2));
        Check.same("the basis stays", desk.columnOf(0), 0);
        Check.same("pivots", desk.pivots(), 1);
        Check.undoable(desk, "setRule(1)", 2, () -> desk.setRule(1));
        Check.undoable(desk, "setRule(1) again", 1, () -> desk.setRule(1));
        Check.same("rule", desk.rule(), 1);
    }

    // Promise 13
    private static void append() {
        Check.begin("13 append");
        SimplexDesk desk = new SimplexDesk();
        for (int wrong : new int[] {32, 127, 0, -1, LOW, HIGH}) {
            Check.refusesArgument(desk, "append(" + wrong + ")", () -> desk.append(wrong));
        }
        Check.same("append(33)", desk.append(33), 1);
        Check.same("append(126)", desk.append(126), 2);
        Check.same("savedStates", desk.savedStates(), 0);
        for (int length = 3; length <= 60; length++) {
            Check.same("append", desk.append('0'), length);
        }
        Check.refusesState(desk, "append to 60", () -> desk.append('0'));
        Check.refusesArgument(desk, "append(32) to 60", () -> desk.append(32));
        Check.same("clearBuffer", desk.clearBuffer(), 60);
        Check.same("append after clearBuffer", desk.append('v'), 1);
    }

    // Promise 14
    private static void clearBuffer() {
        Check.begin("14 clearBuffer");
        SimplexDesk desk = Check.desk(SMALL);
        long empty = desk.digest();
        Check.enter(desk, "v1;");
        Check.same("clearBuffer", desk.clearBuffer(), 3);
        Check.same("clearBuffer again", desk.clearBuffer(), 0);
        Check.same("digest", desk.digest(), empty);
        Check.same("firstError", desk.firstError(), 0);
    }

    // Promise 15
    private static void firstError() {
        Check.begin("15 firstError");
        for (String right : new String[] {"", "v", "v4", "v4;", "v4;m", "v4;m-", "v1;m0", "v1;m9;", "v2;m1,", "v1;m-9;c",
            "v1;m1;c-", "v1;m1;c-1", "v1;m1;c0<", "v1;m1;c0<0", "v1;m1;c0<9", "v1;m1;c0<99", "v1;m1;c0<10;", SMALL, THREE,
            "v4;m0,-1,2,-3;c4,-5,6,-7<89", "v1;m1;c1<1;c1<2;c1<3;c1<40"}) {
            expectError(right, right.length());
        }
        expectError("x", 0);
        expectError("V", 0);
        expectError("1", 0);
        expectError("v0", 1);
        expectError("v5", 1);
        expectError("vv", 1);
        expectError("v2m", 2);
        expectError("v12", 2);
        expectError("v1;c", 3);
        expectError("v1;;", 3);
        expectError("v1;m,", 4);
        expectError("v1;m-0", 5);
        expectError("v1;m--", 5);
        expectError("v1;m-:", 5);
        expectError("v1;m/", 4);
        expectError("v1;m:", 4);
        expectError("v1;m+1", 4);
        expectError("v1;m10", 5);
        expectError("v1;m1,", 5);
        expectError("v1;m1<", 5);
        expectError("v2;m1;", 5);
        expectError("v2;m1,1,", 7);
        expectError("v1;m1;m", 6);
        expectError("v1;m1;c;", 7);
        expectError("v1;m1;c1;", 8);
        expectError("v1;m1;c1,", 8);
        expectError("v2;m1,1;c1<", 10);
        expectError("v1;m1;c1<-", 9);
        expectError("v1;m1;c1<;", 9);
        expectError("v1;m1;c1<05", 10);
        expectError("v1;m1;c1<00", 10);
        expectError("v1;m1;c1<100", 11);
        expectError("v1;m1;c1<5/", 10);
        expectError("v1;m1;c1<5:", 10);
        expectError("v1;m1;c1<5<", 10);
        expectError("v1;m1;c1<5,", 10);
        expectError("v1;m1;c1<1;c1<2;c1<3;c1<4;", 25);
        expectError("v1;m1;c1<1;c1<2;c1<3;c1<40;", 26);
        expectError("v1;m1;c1<1;c1<2;c1<3;c1<400", 26);
        expectError("v1;m1x;y", 5);
        // No problem of 60 characters begins so, but a longer one does.
        expectError("v4;m-1,-1,-1,-1;c-1,-1,-1,-1<10;c-1,-1,-1,-1<10;c-1,-1,-1,-1", 60);
    }

    private static void expectError(String text, int due) {
        SimplexDesk desk = new SimplexDesk();
        Check.enter(desk, text);
        Check.same("firstError of " + text, desk.firstError(), due);
        Check.looks(desk, "firstError of " + text, desk::firstError);
    }

    // Promise 16
    private static void load() {
        Check.begin("16 load");
        for (String wrong : new String[] {"", "v", "v1", "v1;", "v1;m", "v1;m-", "v2;m1", "v2;m1,", "v1;m1;", "v1;m1;c", "v1;m1;c1",
            "v1;m1;c1<", "v1;m1;c1<5;", "v1;m10", "v1;m1;c1<05", "v5;m1,1,1,1,1", "v1;m1;c1<1;c1<1;c1<1;c1<1;c1<1", "x"}) {
            SimplexDesk desk = Check.desk(SMALL);
            desk.setRule(1);
            desk.step();
            Check.enter(desk, wrong);
            Check.refusesArgument(desk, "load of " + wrong, desk::load);
            Check.same("the buffer stays", desk.clearBuffer(), wrong.length());
        }
        SimplexDesk desk = Check.desk(SMALL, 2);
        desk.step();
        long before = desk.digest();
        Check.enter(desk, "v4;m0,-1,9,-9;c-9,8,0,7<0;c1,2,3,4<99;c0,0,0,0<10");
        Check.same("load", desk.load(), 3);
        Check.same("savedStates", desk.savedStates(), 4);
        Check.same("clearBuffer", desk.clearBuffer(), 0);
        Check.same("rule", desk.rule(), 2);
        Check.same("variables", desk.variables(), 4);
        Check.same("constraints", desk.constraints(), 3);
        int[] profits = {0, -1, 9, -9};
        int[] factors = {-9, 8, 0, 7};
        for (int variable = 0; variable < 4; variable++) {
            Check.same("profitOf", desk.profitOf(variable), profits[variable]);
            Check.same("coefficientOf(0, ..)", desk.coefficientOf(0, variable), factors[variable]);
            Check.same("coefficientOf(1, ..)", desk.coefficientOf(1, variable), variable + 1);
        }
        Check.same("boundOf(0)", desk.boundOf(0), 0);
        Check.same("boundOf(1)", desk.boundOf(1), 99);
        Check.same("boundOf(2)", desk.boundOf(2), 10);
        Check.same("begun anew", desk.columnOf(2), 6);
        Check.same("pivots", desk.pivots(), 0);
        Check.same("allPivots", desk.allPivots(), 1);
        desk.undo();
        Check.same("digest after undo", desk.digest(), before);
        Check.enter(desk, "v1;m7");
        Check.same("load without constraints", desk.load(), 0);
        Check.same("hasRay", desk.hasRay(), true);
        desk.setVariables(2);
        Check.same("profit of a variable that came anew", desk.profitOf(1), 0);
        desk.addConstraint(3);
        Check.same("coefficient of a constraint that came anew", desk.coefficientOf(0, 1), 0);
    }

    // Promise 17
    private static void write() {
        Check.begin("17 write");
        for (String text : new String[] {SMALL, THREE, OPEN, "v1;m0", "v4;m0,-1,9,-9;c-9,8,0,7<0;c1,2,3,4<99;c0,0,0,0<10",
            "v1;m-5;c1<9;c-1<10;c0<0;c9<99"}) {
            SimplexDesk desk = Check.desk(text);
            long loaded = desk.digest();
            Check.enter(desk, text);
            long entered = desk.digest();
            desk.clearBuffer();
            desk.append('~');
            Check.same("write of " + text, desk.write(), text.length());
            Check.same("digest of what was written", desk.digest(), entered);
            desk.clearBuffer();
            Check.same("the problem stays", desk.digest(), loaded);
        }
        SimplexDesk edge = Check.desk("v4;m-1,-1,-1,-1;c-1,-1,-1,-1<10;c-1,-1,-1,-1<10");
        edge.addConstraint(1);
        Check.same("write with 58 characters", edge.write(), 58);
        edge.setBound(2, 10);
        Check.same("write with 59 characters", edge.write(), 59);
        edge.setCoefficient(2, 0, -1);
        Check.same("write with 60 characters", edge.write(), 60);
        edge.setCoefficient(2, 1, -1);
        Check.refusesState(edge, "write with 61 characters", edge::write);
        Check.same("the buffer stays", edge.clearBuffer(), 60);
        edge.setCoefficient(2, 2, -1);
        edge.setCoefficient(2, 3, -1);
        edge.addConstraint(99);
        for (int variable = 0; variable < 4; variable++) {
            edge.setCoefficient(3, variable, -9);
        }
        edge.append('v');
        Check.refusesState(edge, "write with 79 characters", edge::write);
        Check.same("the buffer stays", edge.clearBuffer(), 1);
        Check.same("savedStates", edge.savedStates(), 6);
        SimplexDesk desk = new SimplexDesk();
        Check.same("write of a new object", desk.write(), 7);
        Check.same("savedStates", desk.savedStates(), 0);
        Check.same("load", desk.load(), 0);
    }

    // Promise 18
    private static void undo() {
        Check.begin("18 undo");
        SimplexDesk desk = Check.desk(THREE);
        desk.setRule(2);
        long[] before = new long[6];
        List<Check.Call> calls = new ArrayList<>(List.of(desk::step, desk::step, desk::begin, desk::solve));
        while (desk.savedStates() > 0) {
            desk.undo();
        }
        Check.enter(desk, THREE);
        desk.load();
        desk.setRule(2);
        for (int index = 2; index < 6; index++) {
            before[index] = desk.digest();
            calls.get(index - 2).go();
        }
        for (int index = 5; index >= 2; index--) {
            Check.same("undo", desk.undo(), index);
            Check.same("digest", desk.digest(), before[index]);
        }
        Check.same("undo of setRule", desk.undo(), 1);
        Check.same("rule", desk.rule(), 0);
        Check.same("undo of load", desk.undo(), 0);
        Check.same("variables", desk.variables(), 2);
        Check.refusesState(desk, "undo with no saved state", desk::undo);
        SimplexDesk many = new SimplexDesk();
        for (int profit = 1; profit <= 9; profit++) {
            many.setProfit(0, profit);
        }
        many.append('v');
        for (int left = 5; left >= 0; left--) {
            Check.same("undo of many", many.undo(), left);
            Check.same("profit", many.profitOf(0), left + 3);
        }
        Check.refusesState(many, "undo of the seventh", many::undo);
        Check.same("the buffer is no part", many.clearBuffer(), 1);
        SimplexDesk kept = Check.desk(SMALL);
        kept.keep();
        kept.undo();
        Check.same("the snapshot is no part", kept.restore(), 0);
        Check.same("constraints", kept.constraints(), 2);
    }

    // Promises 19 and 20
    private static void keepAndRestore() {
        Check.begin("19, 20 keep and restore");
        SimplexDesk desk = Check.desk(SMALL, 1);
        Check.same("keep before any pivot", desk.keep(), 0);
        desk.pivot(1, 1);
        desk.pivot(0, 0);
        int states = desk.savedStates();
        Check.same("keep", desk.keep(), 2);
        Check.same("keep saves no state", desk.savedStates(), states);
        desk.setRule(0);
        desk.pivot(1, 3);
        desk.begin();
        desk.append('v');
        Check.same("restore", desk.restore(), 2);
        Check.same("rule", desk.rule(), 1);
        Check.same("pivots", desk.pivots(), 2);
        Check.same("columnOf(0)", desk.columnOf(0), 0);
        Check.fraction("value", desk.valueNumerator(), desk.valueDenominator(), "11/1");
        Check.same("the buffer stays", desk.clearBuffer(), 1);
        desk.setVariables(4);
        Check.same("restore again", desk.restore(), 2);
        Check.same("variables", desk.variables(), 2);
        Check.same("undo of restore", desk.undo(), 5);
        Check.same("variables", desk.variables(), 4);
        SimplexDesk fresh = new SimplexDesk();
        fresh.keep();
        Check.same("restore", fresh.restore(), 0);
        Check.same("restore saves a state", fresh.savedStates(), 1);
        Check.same("undo", fresh.undo(), 0);
    }

    // Promise 21
    private static void savedStates() {
        Check.begin("21 savedStates");
        SimplexDesk desk = new SimplexDesk();
        for (int made = 1; made <= 8; made++) {
            desk.solve();
            Check.same("savedStates", desk.savedStates(), Math.min(6, made));
        }
        desk.undo();
        Check.same("savedStates", desk.savedStates(), 5);
        Check.looks(desk, "savedStates", desk::savedStates);
    }

    // Promises 22 to 27
    private static void problemLooks() {
        Check.begin("22 to 27 looks at the problem");
        SimplexDesk desk = Check.desk("v3;m5,-4,3;c2,-3,1<5;c4,1,2<11", 2);
        Check.same("variables", desk.variables(), 3);
        Check.same("constraints", desk.constraints(), 2);
        Check.same("profitOf(1)", desk.profitOf(1), -4);
        Check.same("profitOf(2)", desk.profitOf(2), 3);
        Check.same("coefficientOf(0, 1)", desk.coefficientOf(0, 1), -3);
        Check.same("coefficientOf(1, 2)", desk.coefficientOf(1, 2), 2);
        Check.same("boundOf(1)", desk.boundOf(1), 11);
        Check.same("rule", desk.rule(), 2);
        for (int wrong : new int[] {-1, 3, LOW, HIGH}) {
            Check.refusesIndex(desk, "profitOf", () -> desk.profitOf(wrong));
            Check.refusesIndex(desk, "coefficientOf variable", () -> desk.coefficientOf(0, wrong));
            Check.refusesIndex(desk, "coefficientOf constraint", () -> desk.coefficientOf(wrong, 0));
            Check.refusesIndex(desk, "boundOf", () -> desk.boundOf(wrong));
        }
        Check.refusesIndex(desk, "coefficientOf(2, 0)", () -> desk.coefficientOf(2, 0));
        Check.refusesIndex(desk, "boundOf(2)", () -> desk.boundOf(2));
        Check.looks(desk, "looks", () -> desk.variables() + desk.constraints() + desk.profitOf(0)
                + desk.coefficientOf(1, 1) + desk.boundOf(0) + desk.rule());
    }

    // Promises 28 to 31
    private static void basisLooks() {
        Check.begin("28 to 31 looks at the basis");
        SimplexDesk desk = Check.desk(SMALL);
        desk.pivot(1, 1);
        Check.same("columnOf(0)", desk.columnOf(0), 2);
        Check.same("columnOf(1)", desk.columnOf(1), 1);
        boolean[] named = {false, true, true, false};
        for (int column = 0; column < 4; column++) {
            Check.same("isNamed(" + column + ")", desk.isNamed(column), named[column]);
        }
        for (int wrong : new int[] {-1, 4, LOW, HIGH}) {
            Check.refusesIndex(desk, "columnOf", () -> desk.columnOf(wrong));
            Check.refusesIndex(desk, "isNamed", () -> desk.isNamed(wrong) ? 1 : 0);
        }
        Check.refusesIndex(desk, "columnOf(2)", () -> desk.columnOf(2));
        Check.same("isOptimal", desk.isOptimal(), false);
        desk.solve();
        Check.same("isOptimal", desk.isOptimal(), true);
        Check.same("hasRay", desk.hasRay(), false);
        SimplexDesk open = Check.desk(OPEN);
        Check.same("isOptimal with a ray", open.isOptimal(), false);
        Check.same("hasRay", open.hasRay(), true);
        SimplexDesk flat = Check.desk("v2;m0,-1;c-1,-1<3");
        Check.same("isOptimal with a reduced cost of 0", flat.isOptimal(), true);
        Check.same("hasRay with a reduced cost of 0", flat.hasRay(), false);
        SimplexDesk zero = Check.desk("v1;m1;c0<3");
        Check.same("hasRay with an entry of 0", zero.hasRay(), true);
        SimplexDesk second = Check.desk("v1;m1;c-1<3;c1<4");
        Check.same("hasRay with an entry above 0 in the last row", second.hasRay(), false);
        Check.looks(desk, "looks", () -> desk.columnOf(0) + (desk.isNamed(1) && desk.isOptimal() && desk.hasRay() ? 1 : 0));
    }

    // Promises 32 to 34
    private static void counts() {
        Check.begin("32 to 34 counts");
        SimplexDesk desk = Check.desk("v2;m1,1;c1,0<0;c0,1<5");
        desk.step();
        Check.same("idlePivots", desk.idlePivots(), 1);
        desk.step();
        Check.same("pivots", desk.pivots(), 2);
        Check.same("idlePivots", desk.idlePivots(), 1);
        desk.setProfit(0, 2);
        Check.same("pivots", desk.pivots(), 0);
        Check.same("allPivots", desk.allPivots(), 2);
        Check.same("idlePivots", desk.idlePivots(), 1);
        desk.solve();
        Check.same("pivots", desk.pivots(), 2);
        Check.same("allPivots", desk.allPivots(), 4);
        Check.same("idlePivots", desk.idlePivots(), 2);
        desk.pivotsLeft();
        desk.solvedNumerator(0, 3);
        Check.same("allPivots after trials", desk.allPivots(), 4);
        Check.same("idlePivots after trials", desk.idlePivots(), 2);
        Check.same("pivots after trials", desk.pivots(), 2);
    }

    // Promises 35 to 43
    private static void fractions() {
        Check.begin("35 to 43 fractions of the basis");
        SimplexDesk desk = Check.desk(SMALL);
        desk.pivot(1, 1);
        String[][] entries = {{"2/3", "0/1", "1/1", "-1/3"}, {"1/3", "1/1", "0/1", "1/3"}};
        String[] reduced = {"7/3", "0/1", "0/1", "-2/3"};
        String[] given = {"0/1", "2/1", "2/1", "0/1"};
        for (int column = 0; column < 4; column++) {
            for (int row = 0; row < 2; row++) {
                Check.fraction("entry(" + row + ", " + column + ")", desk.entryNumerator(row, column),
                        desk.entryDenominator(row, column), entries[row][column]);
            }
            Check.fraction("reduced(" + column + ")", desk.reducedNumerator(column), desk.reducedDenominator(column),
                    reduced[column]);
            Check.fraction("given(" + column + ")", desk.givenNumerator(column), desk.givenDenominator(column),
                    given[column]);
        }
        Check.fraction("value", desk.valueNumerator(), desk.valueDenominator(), "4/1");
        Check.same("value as a double", desk.value() == 4.0, true);
        SimplexDesk three = Check.desk(THREE);
        Check.same("value as a double", three.value() == 0.0, true);
        three.step();
        Check.fraction("value", three.valueNumerator(), three.valueDenominator(), "25/2");
        Check.same("value as a double", three.value() == 12.5, true);
        Check.fraction("given(0)", three.givenNumerator(0), three.givenDenominator(0), "5/2");
        SimplexDesk third = Check.desk("v1;m1;c3<4");
        third.step();
        Check.same("a third as a double", third.value() == 4.0 / 3.0, true);
        fractionsRefused(desk);
        Check.looks(desk, "looks", () -> desk.entryNumerator(0, 0) + desk.reducedDenominator(0)
                + desk.givenNumerator(1) + desk.valueNumerator() + (long) desk.value());
    }

    private static void fractionsRefused(SimplexDesk desk) {
        for (int wrong : new int[] {-1, 4, LOW, HIGH}) {
            Check.refusesIndex(desk, "entryNumerator column", () -> desk.entryNumerator(0, wrong));
            Check.refusesIndex(desk, "entryNumerator row", () -> desk.entryNumerator(wrong, 0));
            Check.refusesIndex(desk, "entryDenominator column", () -> desk.entryDenominator(0, wrong));
            Check.refusesIndex(desk, "entryDenominator row", () -> desk.entryDenominator(wrong, 0));
            Check.refusesIndex(desk, "reducedNumerator", () -> desk.reducedNumerator(wrong));
            Check.refusesIndex(desk, "reducedDenominator", () -> desk.reducedDenominator(wrong));
            Check.refusesIndex(desk, "givenNumerator", () -> desk.givenNumerator(wrong));
            Check.refusesIndex(desk, "givenDenominator", () -> desk.givenDenominator(wrong));
        }
        Check.refusesIndex(desk, "entryNumerator(2, 0)", () -> desk.entryNumerator(2, 0));
        Check.refusesIndex(desk, "entryDenominator(2, 0)", () -> desk.entryDenominator(2, 0));
    }

    // Promises 44 to 49
    private static void duals() {
        Check.begin("44 to 49 duals");
        SimplexDesk desk = Check.desk(THREE);
        expectDuals(desk, "0/1", "0/1", "0/1", "0/1");
        desk.step();
        expectDuals(desk, "5/2", "0/1", "0/1", "25/2");
        desk.step();
        expectDuals(desk, "1/1", "0/1", "1/1", "13/1");
        for (int wrong : new int[] {-1, 3, LOW, HIGH}) {
            Check.refusesIndex(desk, "dualNumerator", () -> desk.dualNumerator(wrong));
            Check.refusesIndex(desk, "dualDenominator", () -> desk.dualDenominator(wrong));
            Check.refusesIndex(desk, "dualNumeratorByEquations", () -> desk.dualNumeratorByEquations(wrong));
            Check.refusesIndex(desk, "dualDenominatorByEquations", () -> desk.dualDenominatorByEquations(wrong));
        }
        SimplexDesk low = Check.desk(SMALL);
        low.pivot(1, 1);
        low.pivot(0, 0);
        expectDuals(low, "7/2", "-1/2", "11/1");
        // The rows name the columns so that the first equation has no factor where the solving begins.
        SimplexDesk crossed = Check.desk("v2;m1,1;c0,1<3;c1,0<4");
        crossed.solve();
        expectDuals(crossed, "1/1", "1/1", "7/1");
        SimplexDesk none = Check.desk("v1;m0");
        Check.fraction("dualValue", none.dualValueNumerator(), none.dualValueDenominator(), "0/1");
        Check.refusesIndex(none, "dualNumerator(0)", () -> none.dualNumerator(0));
    }

    private static void expectDuals(SimplexDesk desk, String... due) {
        int many = due.length - 1;
        for (int index = 0; index < many; index++) {
            int constraint = index;
            Check.fraction("dual(" + index + ")", desk.dualNumerator(index), desk.dualDenominator(index), due[index]);
            Check.fraction("dualByEquations(" + index + ")", desk.dualNumeratorByEquations(index),
                    desk.dualDenominatorByEquations(index), due[index]);
            Check.looks(desk, "dual", () -> desk.dualNumerator(constraint) + desk.dualNumeratorByEquations(constraint));
        }
        Check.fraction("dualValue", desk.dualValueNumerator(), desk.dualValueDenominator(), due[many]);
    }

    // Promises 50 to 52
    private static void rays() {
        Check.begin("50 to 52 rays");
        SimplexDesk desk = Check.desk(OPEN);
        Check.same("rayColumn", desk.rayColumn(), 0);
        expectRay(desk, "1/1", "0/1", "3/1");
        desk.pivot(0, 1);
        Check.same("rayColumn", desk.rayColumn(), 0);
        expectRay(desk, "1/1", "3/2", "0/1");
        for (int wrong : new int[] {-1, 3, LOW, HIGH}) {
            Check.refusesIndex(desk, "rayNumerator", () -> desk.rayNumerator(wrong));
            Check.refusesIndex(desk, "rayDenominator", () -> desk.rayDenominator(wrong));
        }
        SimplexDesk second = Check.desk("v3;m-1,2,3");
        Check.same("the lowest of several", second.rayColumn(), 1);
        expectRay(second, "0/1", "1/1", "0/1");
        SimplexDesk behind = Check.desk("v2;m1,1;c1,-2<3");
        Check.same("a ray behind a column that is none", behind.rayColumn(), 1);
        expectRay(behind, "0/1", "1/1", "2/1");
        SimplexDesk none = Check.desk(SMALL);
        Check.refusesState(none, "rayColumn", none::rayColumn);
        Check.refusesState(none, "rayNumerator", () -> none.rayNumerator(0));
        Check.refusesState(none, "rayDenominator", () -> none.rayDenominator(3));
        Check.refusesIndex(none, "rayNumerator(4)", () -> none.rayNumerator(4));
        Check.refusesIndex(none, "rayDenominator(-1)", () -> none.rayDenominator(-1));
    }

    private static void expectRay(SimplexDesk desk, String... due) {
        for (int column = 0; column < due.length; column++) {
            Check.fraction("ray(" + column + ")", desk.rayNumerator(column), desk.rayDenominator(column), due[column]);
        }
        Check.looks(desk, "ray", () -> desk.rayColumn() + desk.rayNumerator(0) + desk.rayDenominator(0));
    }

    // Promises 53 to 56
    private static void allBases() {
        Check.begin("53 to 56 all feasible bases");
        expectBases(new SimplexDesk(), 1, 1, "0/1");
        expectBases(Check.desk(SMALL), 4, 4, "12/1");
        expectBases(Check.desk(THREE), 6, 6, "13/1");
        expectBases(Check.desk(OPEN), 2, 2, "3/2");
        // The vertices (0, 0), (4, 0) and (0, 4) have the values 0, 4 and 4.
        expectBases(Check.desk("v2;m1,1;c1,1<4"), 3, 2, "4/1");
        // Twice the same constraint with the bound 0: three bases of the same solution.
        expectBases(Check.desk("v1;m1;c1<0;c1<0"), 3, 1, "0/1");
        // No columns of one line, and none with a right side below 0.
        expectBases(Check.desk("v2;m1,1;c1,1<2;c2,2<4"), 5, 2, "2/1");
        expectBases(Check.desk("v1;m-1;c2<3"), 2, 2, "0/1");
        expectBases(Check.desk("v1;m1;c-2<3"), 1, 1, "0/1");
        SimplexDesk solved = Check.desk(THREE);
        solved.solve();
        expectBases(solved, 6, 6, "13/1");
        SimplexDesk two = Check.desk("v1;m1;c3<2;c2<3");
        expectBases(two, 2, 2, "2/3");
        // The lowest column of a basis has no factor in the first equation.
        expectBases(Check.desk("v2;m1,1;c0,1<3;c1,0<4"), 4, 4, "7/1");
        eachAlone();
    }

    // Each answer by a desk that has told no other: none may rest on what another call has left.
    private static void eachAlone() {
        Check.same("feasibleBases alone", Check.desk("v1;m1;c3<2;c2<3").feasibleBases(), 2);
        Check.same("unlikeValues alone", Check.desk("v1;m1;c3<2;c2<3").unlikeValues(), 2);
        Check.same("bestNumerator alone", Check.desk("v1;m1;c3<2;c2<3").bestNumerator(), 2);
        Check.same("bestDenominator alone", Check.desk("v1;m1;c3<2;c2<3").bestDenominator(), 3);
        SimplexDesk numerator = Check.desk(THREE);
        numerator.step();
        Check.same("dualNumeratorByEquations alone", numerator.dualNumeratorByEquations(0), 5);
        SimplexDesk denominator = Check.desk(THREE);
        denominator.step();
        Check.same("dualDenominatorByEquations alone", denominator.dualDenominatorByEquations(0), 2);
        SimplexDesk bounds = Check.desk("v1;m1;c2<5");
        Check.same("solvedDenominator alone", bounds.solvedDenominator(0, 7), 2);
        Check.same("solvedNumerator after another bound", bounds.solvedNumerator(0, 9), 9);
    }

    private static void expectBases(SimplexDesk desk, int feasible, int unlike, String best) {
        Check.same("feasibleBases", desk.feasibleBases(), feasible);
        Check.same("unlikeValues", desk.unlikeValues(), unlike);
        Check.fraction("best", desk.bestNumerator(), desk.bestDenominator(), best);
        Check.looks(desk, "all bases", () -> desk.feasibleBases() + desk.unlikeValues() + desk.bestNumerator());
    }

    // Promise 57
    private static void whyNoPivot() {
        Check.begin("57 whyNoPivot");
        SimplexDesk desk = Check.desk("v3;m3,0,2;c1,1,-1<4;c1,3,0<4;c1,0,1<6");
        Check.same("possible", desk.whyNoPivot(0, 0), 0);
        Check.same("an equal ratio", desk.whyNoPivot(1, 0), 0);
        Check.same("another row has a lesser ratio", desk.whyNoPivot(2, 0), 4);
        Check.same("reduced cost 0", desk.whyNoPivot(0, 1), 2);
        Check.same("reduced cost 0, entry 0", desk.whyNoPivot(2, 1), 2);
        Check.same("entry below 0", desk.whyNoPivot(0, 2), 3);
        Check.same("entry 0", desk.whyNoPivot(1, 2), 3);
        Check.same("possible", desk.whyNoPivot(2, 2), 0);
        Check.same("named by this row", desk.whyNoPivot(0, 3), 1);
        Check.same("named by another row", desk.whyNoPivot(0, 4), 1);
        desk.pivot(1, 0);
        Check.same("reduced cost below 0", desk.whyNoPivot(1, 4), 2);
        Check.same("named now", desk.whyNoPivot(1, 0), 1);
        for (int wrong : new int[] {-1, 6, LOW, HIGH}) {
            Check.refusesIndex(desk, "whyNoPivot row", () -> desk.whyNoPivot(wrong, 0));
            Check.refusesIndex(desk, "whyNoPivot column", () -> desk.whyNoPivot(0, wrong));
        }
        Check.refusesIndex(desk, "whyNoPivot(3, 0)", () -> desk.whyNoPivot(3, 0));
        Check.looks(desk, "whyNoPivot", () -> desk.whyNoPivot(0, 2));
    }

    // Promises 58 and 59
    private static void rules() {
        Check.begin("58, 59 nextColumn and nextRow");
        expectNext("v3;m1,3,2;c1,9,1<9", 0, 0, 0);
        expectNext("v3;m1,3,2;c1,9,1<9", 1, 1, 0);
        expectNext("v3;m1,3,2;c1,9,1<9", 2, 2, 0);
        expectNext("v2;m-1,2;c1,1<4", 0, 1, 0);
        expectNext("v3;m1,2,2;c1,1,1<4", 1, 1, 0);
        expectNext("v2;m1,2;c1,2<4", 2, 0, 0);
        expectNext("v2;m2,1;c1,1<4;c0,1<3", 2, 0, 0);
        // The greatest gain takes the least ratio, not any ratio: 1 * 5 against 2 * 2.
        expectNext("v2;m2,1;c1,0<9;c1,0<2;c0,1<5", 2, 1, 2);
        expectNext("v1;m1;c1<6;c2<6;c3<6", 0, 0, 2);
        expectNext("v1;m1;c0<0;c-1<0;c3<6", 0, 0, 2);
        // Fractions: 3 * 5/3 against 2 * 8/3.
        expectNext("v2;m3,2;c3,0<5;c0,3<8", 2, 1, 1);
        expectNext("v2;m3,2;c3,0<5;c0,3<8", 1, 0, 0);
        // Equal ratios: the row that names the lowest column, not the lowest row.
        SimplexDesk desk = Check.desk("v2;m3,2;c1,1<4;c1,2<4");
        Check.same("nextRow, the lowest slack", desk.nextRow(), 0);
        desk.pivot(1, 1);
        Check.same("nextColumn", desk.nextColumn(), 0);
        Check.same("nextRow, the lowest column", desk.nextRow(), 1);
        Check.looks(desk, "next", () -> desk.nextColumn() + desk.nextRow());
        desk.solve();
        Check.refusesState(desk, "nextColumn, optimal", desk::nextColumn);
        Check.refusesState(desk, "nextRow, optimal", desk::nextRow);
        SimplexDesk open = Check.desk(OPEN);
        Check.refusesState(open, "nextColumn, ray", open::nextColumn);
        Check.refusesState(open, "nextRow, ray", open::nextRow);
    }

    private static void expectNext(String text, int rule, int column, int row) {
        SimplexDesk desk = Check.desk(text, rule);
        Check.same("nextColumn of " + text + " by " + rule, desk.nextColumn(), column);
        Check.same("nextRow of " + text + " by " + rule, desk.nextRow(), row);
        Check.same("step of " + text + " by " + rule, desk.step(), column);
        Check.same("columnOf the row", desk.columnOf(row), column);
    }

    // Promise 60
    private static void pivotsLeft() {
        Check.begin("60 pivotsLeft");
        SimplexDesk desk = Check.desk(THREE);
        for (int left = 2; left > 0; left--) {
            Check.same("pivotsLeft", desk.pivotsLeft(), left);
            Check.looks(desk, "pivotsLeft", desk::pivotsLeft);
            desk.step();
        }
        Check.same("pivotsLeft, optimal", desk.pivotsLeft(), 0);
        Check.same("pivotsLeft, ray", Check.desk(OPEN).pivotsLeft(), 0);
        SimplexDesk cycle = Twins.cycle(1);
        Check.same("pivotsLeft in a cycle", cycle.pivotsLeft(), 40);
        cycle.setRule(0);
        Check.same("pivotsLeft by the rule 0", cycle.pivotsLeft() < 40, true);
    }

    // Promises 61 and 62
    private static void boundsOfNow() {
        Check.begin("61, 62 leastBound and greatestBound");
        SimplexDesk desk = Check.desk(SMALL);
        expectBounds(desk, 0, 0, 99);
        desk.pivot(0, 0);
        expectBounds(desk, 0, 0, 6);
        expectBounds(desk, 1, 4, 99);
        SimplexDesk three = Check.desk(THREE);
        three.step();
        expectBounds(three, 0, 0, 5);
        expectBounds(three, 1, 10, 99);
        expectBounds(three, 2, 8, 99);
        // The slack is 1/2 and falls by 3/2 for each 1 of the first bound: the bound stays an integer.
        SimplexDesk half = Check.desk("v1;m1;c2<5;c1<3");
        half.step();
        expectBounds(half, 0, 0, 6);
        expectBounds(half, 1, 3, 99);
        SimplexDesk stuck = Check.desk("v1;m1;c1<4;c1<4");
        stuck.step();
        expectBounds(stuck, 0, 0, 4);
        expectBounds(stuck, 1, 4, 99);
        SimplexDesk edge = Check.desk("v1;m1;c1<99");
        expectBounds(edge, 0, 0, 99);
        for (int wrong : new int[] {-1, 2, LOW, HIGH}) {
            Check.refusesIndex(desk, "leastBound", () -> desk.leastBound(wrong));
            Check.refusesIndex(desk, "greatestBound", () -> desk.greatestBound(wrong));
        }
    }

    private static void expectBounds(SimplexDesk desk, int constraint, int least, int greatest) {
        Check.same("leastBound(" + constraint + ")", desk.leastBound(constraint), least);
        Check.same("greatestBound(" + constraint + ")", desk.greatestBound(constraint), greatest);
        Check.looks(desk, "bounds", () -> desk.leastBound(constraint) + desk.greatestBound(constraint));
    }

    // Promises 63 and 64
    private static void solved() {
        Check.begin("63, 64 solved");
        SimplexDesk desk = Check.desk(SMALL);
        expectSolved(desk, 0, 4, "12/1");
        expectSolved(desk, 0, 6, "18/1");
        expectSolved(desk, 0, 99, "18/1");
        expectSolved(desk, 0, 0, "0/1");
        desk.pivot(1, 1);
        expectSolved(desk, 0, 6, "18/1");
        SimplexDesk half = Check.desk("v1;m1;c2<5");
        expectSolved(half, 0, 7, "7/2");
        for (int wrong : new int[] {-1, 2, LOW, HIGH}) {
            Check.refusesIndex(desk, "solvedNumerator constraint", () -> desk.solvedNumerator(wrong, 100));
            Check.refusesIndex(desk, "solvedDenominator constraint", () -> desk.solvedDenominator(wrong, 100));
        }
        SimplexDesk open = Check.desk(OPEN);
        for (int wrong : new int[] {-1, 100, LOW, HIGH}) {
            Check.refusesArgument(open, "solvedNumerator bound", () -> open.solvedNumerator(0, wrong));
            Check.refusesArgument(open, "solvedDenominator bound", () -> open.solvedDenominator(0, wrong));
        }
        Check.refusesState(open, "solvedNumerator, ray", () -> open.solvedNumerator(0, 5));
        Check.refusesState(open, "solvedDenominator, ray", () -> open.solvedDenominator(0, 5));
        SimplexDesk cycle = Twins.cycle(1);
        Check.refusesState(cycle, "solvedNumerator, 40 pivots", () -> cycle.solvedNumerator(3, 0));
        Check.refusesState(cycle, "solvedDenominator, 40 pivots", () -> cycle.solvedDenominator(3, 0));
    }

    private static void expectSolved(SimplexDesk desk, int constraint, int bound, String due) {
        Check.fraction("solved(" + constraint + ", " + bound + ")", desk.solvedNumerator(constraint, bound),
                desk.solvedDenominator(constraint, bound), due);
        Check.looks(desk, "solved", () -> desk.solvedNumerator(constraint, bound) + desk.solvedDenominator(constraint, bound));
    }

    // Promise 65
    private static void digest() {
        Check.begin("65 digest");
        for (String text : new String[] {"v2;m0,0", SMALL, THREE, OPEN, "v4;m0,-1,9,-9;c-9,8,0,7<0;c1,2,3,4<99;c0,0,0,0<10",
            "v1;m1;c3<4", "v1;m1;c9<1", "v1;m9;c1<99"}) {
            for (int rule = 0; rule < 3; rule++) {
                Digests.expect(Check.desk(text, rule), "");
                SimplexDesk desk = Check.desk(text, rule);
                desk.solve();
                Check.enter(desk, "~!");
                Digests.expect(desk, "~!");
            }
        }
        SimplexDesk desk = new SimplexDesk();
        long hash = 4339;
        long[] list = {2, 0, 0, 1, 0, 0, 0, 0, 0, 1, 0, 1, 1, 1, 0, 1, 0, 0, 0, 0, 0, 0, 1, 0, 1, 0, 0, 1, 0, 1, 0, 0};
        for (long number : list) {
            hash = 31 * hash + number;
        }
        Check.same("digest of a new object", desk.digest(), hash);
        Check.looks(desk, "digest", desk::digest);
    }

    // The greatest numbers that can occur: determinants of 4 rows with factors of 9, and bounds of 99.
    private static void limits() {
        Check.begin("the greatest numbers");
        SimplexDesk desk = new SimplexDesk();
        ReferenceDesk reference = new ReferenceDesk();
        desk.setVariables(4);
        reference.setVariables(4);
        int[][] factors = {{9, 9, 9, 9}, {9, -9, 9, -9}, {9, 9, -9, -9}, {9, -9, -9, 9}};
        for (int row = 0; row < 4; row++) {
            desk.setProfit(row, 9 - row % 2);
            reference.setProfit(row, 9 - row % 2);
            desk.addConstraint(99 - row);
            reference.addConstraint(99 - row);
            for (int variable = 0; variable < 4; variable++) {
                desk.setCoefficient(row, variable, factors[row][variable]);
                reference.setCoefficient(row, variable, factors[row][variable]);
            }
        }
        for (int rule = 0; rule < 3; rule++) {
            Check.same("setRule", desk.setRule(rule), reference.setRule(rule));
            Check.same("digest", desk.digest(), reference.digest());
            Check.same("solve", desk.solve(), reference.solve());
            Check.same("digest", desk.digest(), reference.digest());
            desk.begin();
            reference.begin();
        }
    }
}
