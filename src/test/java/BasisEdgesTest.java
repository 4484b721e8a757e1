/** "Columns, rows, the tableau", "Pivots" and the promises 8 to 12, 28 to 34 and 57 to 60, at their edges. */
public final class BasisEdgesTest {
    private static final String SMALL = "v2;m3,2;c1,1<4;c1,3<6";

    private BasisEdgesTest() {
    }

    public static void main(String[] args) {
        columnsAndRows();
        noRows();
        optimalAtZero();
        optimalBelowAndAbove();
        rayAtZero();
        rayOfALaterColumn();
        rayOfASlack();
        rayWithoutARow();
        rayAndOptimal();
        beginAnswers();
        pivotAnswers();
        pivotLeavesAllElse();
        pivotIntoSlack();
        pivotWithEqualRatios();
        pivotWithARay();
        reasonNamed();
        reasonReducedCost();
        reasonEntry();
        reasonRatio();
        ratiosOfRowsWithoutAnEntryAboveZero();
        firstReason();
        possibleMeansPivot();
        lowestColumn();
        greatestReducedCost();
        greatestGain();
        gainsOfZero();
        fractionsInRules();
        rowOfEqualRatios();
        rowOfTheLeastRatio();
        stepByEachRule();
        stepUntilOptimal();
        stepIntoRay();
        solveAnswers();
        solveIntoRay();
        solveFromTheMiddle();
        fortyPivots();
        fortyPivotsEachTime();
        ruleChangesNoBasis();
        pivotCounts();
        idleAtZero();
        idleOfFormerBases();
        pivotsLeftIsSolve();
        fiveHundredPivots();
        looksAtTheBasis();
        Check.end("BasisEdgesTest");
    }

    // "With n variables and m constraints there are n + m columns"; "There are m rows, 0 to m - 1."
    private static void columnsAndRows() {
        Check.begin("columns and rows");
        for (int size = 0; size < 20; size++) {
            int variables = 1 + size % 4;
            int constraints = size / 4;
            SimplexDesk desk = Twins.sized(variables, constraints);
            for (int column = 0; column < variables + constraints; column++) {
                Check.same("isNamed", desk.isNamed(column), column >= variables);
                for (int row = 0; row < constraints; row++) {
                    long due = column == variables + row ? 1 : 0;
                    Check.fraction("entry", desk.entryNumerator(row, column), desk.entryDenominator(row, column), due + "/1");
                }
                int row = column - variables;
                String given = row < 0 ? "0/1" : 10 * row + 9 + "/1";
                Check.fraction("given", desk.givenNumerator(column), desk.givenDenominator(column), given);
                Check.same("profit of the column", desk.reducedNumerator(column), column == 0 ? 1 : 0);
            }
            for (int row = 0; row < constraints; row++) {
                Check.same("columnOf", desk.columnOf(row), variables + row);
            }
            Check.text("isNamed", Twins.answer(desk, d -> d.isNamed(variables + constraints) ? 1 : 0), Twins.INDEX.getName());
            Check.text("columnOf", Twins.answer(desk, d -> d.columnOf(constraints)), Twins.INDEX.getName());
        }
    }

    private static void noRows() {
        Check.begin("a problem without rows");
        SimplexDesk desk = Check.desk("v4;m0,-1,0,-9");
        Check.same("isOptimal", desk.isOptimal(), true);
        Check.same("solve", desk.solve(), 0);
        Check.same("begin", desk.begin(), 0);
        Check.fraction("value", desk.valueNumerator(), desk.valueDenominator(), "0/1");
        Check.fraction("reduced(3)", desk.reducedNumerator(3), desk.reducedDenominator(3), "-9/1");
        Check.text("pivot(0, 0)", Twins.answer(desk, d -> d.pivot(0, 0)), Twins.INDEX.getName());
        Check.text("whyNoPivot(0, 0)", Twins.answer(desk, d -> d.whyNoPivot(0, 0)), Twins.INDEX.getName());
    }

    // "A basis is optimal, if no reduced cost is above 0."
    private static void optimalAtZero() {
        Check.begin("optimal with reduced costs of 0");
        Check.same("isOptimal", Check.desk("v4;m0,0,0,0;c1,1,1,1<5").isOptimal(), true);
        Check.same("isOptimal", Check.desk("v2;m0,-1;c1,1<5").isOptimal(), true);
        // After a pivot the second variable has the reduced cost 0.
        SimplexDesk desk = Check.desk("v2;m2,2;c1,1<5");
        desk.step();
        Check.fraction("reduced(1)", desk.reducedNumerator(1), desk.reducedDenominator(1), "0/1");
        Check.same("isOptimal", desk.isOptimal(), true);
        Check.same("pivotsLeft", desk.pivotsLeft(), 0);
    }

    private static void optimalBelowAndAbove() {
        Check.begin("optimal, just not, and just so");
        Check.same("isOptimal with a last profit of 1", Check.desk("v4;m0,0,0,1;c1,1,1,1<5").isOptimal(), false);
        Check.same("isOptimal with a first profit of 1", Check.desk("v4;m1,-9,-9,-9;c1,1,1,1<5").isOptimal(), false);
        // 1 less 9/8, and 1 less 7/8
        SimplexDesk below = Check.desk("v2;m9,1;c8,1<5");
        below.step();
        Check.fraction("reduced(1)", below.reducedNumerator(1), below.reducedDenominator(1), "-1/8");
        Check.same("isOptimal", below.isOptimal(), true);
        SimplexDesk above = Check.desk("v2;m7,1;c8,1<5");
        above.step();
        Check.fraction("reduced(1)", above.reducedNumerator(1), above.reducedDenominator(1), "1/8");
        Check.same("isOptimal", above.isOptimal(), false);
        // Only a slack has a reduced cost above 0.
        SimplexDesk slack = Check.desk(SMALL);
        slack.pivot(1, 1);
        slack.pivot(0, 0);
        Check.fraction("reduced(3)", slack.reducedNumerator(3), slack.reducedDenominator(3), "1/2");
        Check.same("isOptimal", slack.isOptimal(), false);
    }

    // "It has a ray, if some column has a reduced cost above 0, and no entry above 0 in any row"
    private static void rayAtZero() {
        Check.begin("rays with entries of 0 and of 1");
        Check.same("hasRay", Check.desk("v1;m1;c0<5").hasRay(), true);
        Check.same("hasRay", Check.desk("v1;m1;c-1<5").hasRay(), true);
        Check.same("hasRay", Check.desk("v1;m1;c1<5").hasRay(), false);
        Check.same("hasRay", Check.desk("v1;m1;c0<5;c0<5;c-1<0;c0<0").hasRay(), true);
        Check.same("hasRay", Check.desk("v1;m1;c0<5;c0<5;c-1<0;c1<0").hasRay(), false);
        Check.same("hasRay", Check.desk("v1;m1;c1<5;c0<5;c-1<0;c-1<0").hasRay(), false);
        Check.same("hasRay with a reduced cost of 0", Check.desk("v1;m0;c-1<5").hasRay(), false);
        Check.same("hasRay with a reduced cost below 0", Check.desk("v1;m-1;c-1<5").hasRay(), false);
        // After the pivot the entry of the second variable is 1/8, then 0, then -1/8.
        String[] texts = {"v2;m8,1;c8,-1<8;c0,1<9", "v2;m8,1;c8,-1<8;c0,0<9", "v2;m8,1;c8,-1<8;c0,-1<9"};
        boolean[] due = {false, true, true};
        for (int index = 0; index < 3; index++) {
            SimplexDesk desk = Check.desk(texts[index]);
            Check.same("hasRay of " + texts[index], desk.hasRay(), due[index]);
        }
        SimplexDesk eighth = Check.desk("v2;m1,1;c8,1<8;c8,0<9");
        eighth.step();
        Check.same("hasRay with an entry of 1/8", eighth.hasRay(), false);
    }

    private static void rayOfALaterColumn() {
        Check.begin("a ray of a later column");
        for (int column = 0; column < 4; column++) {
            SimplexDesk desk = Check.desk("v4;m1,1,1,1;c1,1,1,1<5");
            Check.same("hasRay", desk.hasRay(), false);
            desk.setCoefficient(0, column, 0);
            Check.same("hasRay", desk.hasRay(), true);
            Check.same("rayColumn", desk.rayColumn(), column);
            desk.setProfit(column, 0);
            Check.same("hasRay", desk.hasRay(), false);
        }
    }

    // "some column": also that of a slack.
    private static void rayOfASlack() {
        Check.begin("a ray of a slack");
        SimplexDesk desk = Check.desk("v2;m2,1;c2,-3<4;c2,-1<8");
        desk.pivot(0, 0);
        Check.same("hasRay", desk.hasRay(), false);
        desk.pivot(1, 1);
        Check.same("hasRay", desk.hasRay(), true);
        Check.same("rayColumn", desk.rayColumn(), 2);
        Check.same("whyNoPivot(1, 2)", desk.whyNoPivot(1, 2), 3);
        Check.text("step", Twins.answer(desk, SimplexDesk::step), Twins.STATE.getName());
        Check.same("solve", desk.solve(), 0);
        SimplexDesk solved = Check.desk("v2;m-1,2;c-3,3<7;c-3,2<3");
        Check.same("pivotsLeft", solved.pivotsLeft(), 2);
        Check.same("solve", solved.solve(), 2);
        Check.same("rayColumn", solved.rayColumn(), 3);
        Check.text("solvedNumerator", Twins.answer(solved, d -> d.solvedNumerator(0, 7)), Twins.STATE.getName());
    }

    private static void rayWithoutARow() {
        Check.begin("a ray without a row");
        SimplexDesk desk = new SimplexDesk();
        desk.setProfit(1, 1);
        Check.same("hasRay", desk.hasRay(), true);
        Check.same("rayColumn", desk.rayColumn(), 1);
        Check.same("solve", desk.solve(), 0);
        desk.addConstraint(9);
        Check.same("hasRay with a row of 0", desk.hasRay(), true);
        desk.setCoefficient(0, 1, 1);
        Check.same("hasRay", desk.hasRay(), false);
    }

    private static void rayAndOptimal() {
        Check.begin("a ray is not optimal");
        Check.same("isOptimal", Check.desk(Twins.OPEN).isOptimal(), false);
        Check.same("isOptimal", Twins.sized(1, 0).isOptimal(), false);
        Check.same("isOptimal", Twins.sized(4, 4).isOptimal(), false);
    }

    // begin: "Returns the pivots that it had since it was begun."
    private static void beginAnswers() {
        Check.begin("begin");
        SimplexDesk desk = Check.desk(Twins.THREE);
        Check.same("begin without a pivot", desk.begin(), 0);
        desk.step();
        Check.same("begin after one", desk.begin(), 1);
        Check.same("begin again", desk.begin(), 0);
        desk.solve();
        Check.same("begin after two", desk.begin(), 2);
        Check.same("allPivots", desk.allPivots(), 3);
        SimplexDesk cycle = Twins.cycle(1);
        cycle.solve();
        cycle.solve();
        Check.same("begin after 80", cycle.begin(), 80);
    }

    // pivot: "Returns the column that the row named before."
    private static void pivotAnswers() {
        Check.begin("pivot in each row");
        for (int row = 0; row < 4; row++) {
            SimplexDesk desk = Check.desk("v4;m1,1,1,1;c1,0,0,0<5;c0,1,0,0<5;c0,0,1,0<5;c0,0,0,1<5");
            Check.same("pivot", desk.pivot(row, row), 4 + row);
            Check.same("columnOf", desk.columnOf(row), row);
            Check.same("isNamed", desk.isNamed(row), true);
            Check.same("isNamed", desk.isNamed(4 + row), false);
            Check.same("pivots", desk.pivots(), 1);
            Check.same("allPivots", desk.allPivots(), 1);
        }
    }

    // "A pivot in a row and a column lets the row name this column; all else of the basis stays."
    private static void pivotLeavesAllElse() {
        Check.begin("pivot leaves all else");
        SimplexDesk desk = Check.desk("v4;m1,1,1,1;c1,0,0,0<5;c0,1,0,0<5;c0,0,1,0<5;c0,0,0,1<5");
        desk.pivot(3, 3);
        desk.pivot(1, 1);
        int[] due = {4, 1, 6, 3};
        for (int row = 0; row < 4; row++) {
            Check.same("columnOf", desk.columnOf(row), due[row]);
        }
        Check.same("rule", desk.rule(), 0);
    }

    private static void pivotIntoSlack() {
        Check.begin("pivot into the last column");
        SimplexDesk desk = Check.desk(SMALL);
        desk.pivot(1, 1);
        desk.pivot(0, 0);
        Check.same("whyNoPivot(1, 3)", desk.whyNoPivot(1, 3), 0);
        Check.same("pivot(1, 3)", desk.pivot(1, 3), 1);
        Check.same("columnOf(1)", desk.columnOf(1), 3);
        Check.same("isOptimal", desk.isOptimal(), true);
    }

    // Reason 4 asks for a lesser ratio, so each of several rows with the least ratio can be taken.
    private static void pivotWithEqualRatios() {
        Check.begin("pivot with equal ratios");
        for (int row = 0; row < 3; row++) {
            SimplexDesk desk = Check.desk("v1;m1;c1<2;c2<4;c3<6;c4<9");
            Check.same("whyNoPivot", desk.whyNoPivot(row, 0), 0);
            Check.same("pivot", desk.pivot(row, 0), 1 + row);
            Check.fraction("value", desk.valueNumerator(), desk.valueDenominator(), "2/1");
        }
        SimplexDesk desk = Check.desk("v1;m1;c1<2;c2<4;c3<6;c4<9");
        Check.same("whyNoPivot of 9/4", desk.whyNoPivot(3, 0), 4);
    }

    // A ray of one column does not stand in the way of a pivot in another one.
    private static void pivotWithARay() {
        Check.begin("pivot with a ray");
        SimplexDesk desk = Check.desk(Twins.OPEN);
        Check.same("hasRay", desk.hasRay(), true);
        Check.same("whyNoPivot(0, 1)", desk.whyNoPivot(0, 1), 0);
        Check.same("pivot(0, 1)", desk.pivot(0, 1), 2);
        Check.same("whyNoPivot in the column of the ray", desk.whyNoPivot(0, 0), 3);
    }

    // "1: the column is named by a row"
    private static void reasonNamed() {
        Check.begin("the reason 1");
        SimplexDesk desk = Check.desk(SMALL);
        desk.pivot(1, 1);
        Check.same("named by this row", desk.whyNoPivot(1, 1), 1);
        Check.same("named by another row", desk.whyNoPivot(0, 1), 1);
        Check.same("a slack named by this row", desk.whyNoPivot(0, 2), 1);
        Check.same("a slack named by another row", desk.whyNoPivot(1, 2), 1);
        Check.same("a slack named no more", desk.whyNoPivot(0, 3), 2);
    }

    // "2: its reduced cost is not above 0"
    private static void reasonReducedCost() {
        Check.begin("the reason 2");
        for (int profit = -9; profit <= 9; profit++) {
            SimplexDesk desk = Check.desk(SMALL);
            desk.setProfit(1, profit);
            Check.same("whyNoPivot with the profit " + profit, desk.whyNoPivot(1, 1), profit <= 0 ? 2 : 0);
        }
        SimplexDesk eighth = Check.desk("v2;m7,1;c8,1<5");
        eighth.step();
        Check.same("whyNoPivot with 1/8", eighth.whyNoPivot(0, 1), 0);
    }

    // "3: the entry is not above 0"
    private static void reasonEntry() {
        Check.begin("the reason 3");
        for (int factor = -9; factor <= 9; factor++) {
            SimplexDesk desk = Check.desk(SMALL);
            desk.setCoefficient(1, 1, factor);
            desk.setBound(1, 0);
            Check.same("whyNoPivot with the coefficient " + factor, desk.whyNoPivot(1, 1), factor <= 0 ? 3 : 0);
        }
    }

    // "4: another row has a lesser ratio with this column"
    private static void reasonRatio() {
        Check.begin("the reason 4");
        for (int bound = 0; bound <= 99; bound++) {
            SimplexDesk desk = Check.desk("v1;m1;c3<50;c2<33");
            desk.setBound(0, bound);
            Check.same("whyNoPivot(0, 0) with " + bound + " / 3 and 33 / 2", desk.whyNoPivot(0, 0), 2 * bound > 99 ? 4 : 0);
            Check.same("whyNoPivot(1, 0) with " + bound + " / 3 and 33 / 2", desk.whyNoPivot(1, 0), 2 * bound < 99 ? 4 : 0);
        }
        SimplexDesk close = Check.desk("v1;m1;c7<9;c9<11;c8<11;c6<9");
        int[] due = {4, 0, 4, 4};
        for (int row = 0; row < 4; row++) {
            Check.same("whyNoPivot with ratios close together", close.whyNoPivot(row, 0), due[row]);
        }
    }

    // "The ratio of a row and a column with an entry above 0": other rows have none, not even with a right side of 0.
    private static void ratiosOfRowsWithoutAnEntryAboveZero() {
        Check.begin("rows without a ratio");
        SimplexDesk desk = Check.desk("v1;m1;c0<0;c-1<0;c2<50;c-9<99");
        Check.same("whyNoPivot(0, 0)", desk.whyNoPivot(0, 0), 3);
        Check.same("whyNoPivot(1, 0)", desk.whyNoPivot(1, 0), 3);
        Check.same("whyNoPivot(2, 0)", desk.whyNoPivot(2, 0), 0);
        Check.same("whyNoPivot(3, 0)", desk.whyNoPivot(3, 0), 3);
        Check.same("nextRow", desk.nextRow(), 2);
        Check.same("step", desk.step(), 0);
        Check.fraction("value", desk.valueNumerator(), desk.valueDenominator(), "25/1");
    }

    // "of which the first one is told"
    private static void firstReason() {
        Check.begin("the first of several reasons");
        SimplexDesk desk = Check.desk("v4;m-1,0,1,1;c-1,1,0,2<9;c1,0,1,1<2;c2,2,2,1<3");
        Check.same("1 before 2", desk.whyNoPivot(0, 4), 1);
        Check.same("1 before 2 and 3", desk.whyNoPivot(1, 4), 1);
        Check.same("2 before 3, below 0", desk.whyNoPivot(0, 0), 2);
        Check.same("2 before 3, at 0", desk.whyNoPivot(1, 1), 2);
        Check.same("2 before 4, below 0", desk.whyNoPivot(1, 0), 2);
        Check.same("2 before 4, at 0", desk.whyNoPivot(0, 1), 2);
        Check.same("2 with the least ratio", desk.whyNoPivot(2, 0), 2);
        Check.same("3 before 4", desk.whyNoPivot(0, 2), 3);
        Check.same("4", desk.whyNoPivot(1, 2), 4);
        Check.same("none", desk.whyNoPivot(2, 2), 0);
        Check.same("4", desk.whyNoPivot(2, 3), 0 + 4);
        Check.same("none", desk.whyNoPivot(1, 3), 0);
    }

    // pivot: "Throws IllegalStateException if it is not possible", and only then.
    private static void possibleMeansPivot() {
        Check.begin("pivot and whyNoPivot");
        for (int steps = 0; steps <= 2; steps++) {
            for (int cell = 0; cell < 18; cell++) {
                SimplexDesk desk = Check.desk(Twins.THREE);
                for (int made = 0; made < steps; made++) {
                    desk.step();
                }
                int row = cell / 6;
                int column = cell % 6;
                boolean possible = desk.whyNoPivot(row, column) == 0;
                String due = possible ? String.valueOf(desk.columnOf(row)) : Twins.STATE.getName();
                Check.text("pivot", Twins.answer(desk, d -> d.pivot(row, column)), due);
            }
        }
    }

    // "0 (at first): the lowest column with a reduced cost above 0"
    private static void lowestColumn() {
        Check.begin("the rule 0");
        for (int column = 0; column < 4; column++) {
            SimplexDesk desk = Check.desk("v4;m0,0,0,9;c1,1,1,1<5");
            for (int lower = 0; lower < column; lower++) {
                desk.setProfit(lower, -lower);
            }
            desk.setProfit(column, 1);
            Check.same("nextColumn", desk.nextColumn(), column);
            Check.same("nextRow", desk.nextRow(), 0);
        }
    }

    // "1: the column with the greatest reduced cost, of several the lowest"
    private static void greatestReducedCost() {
        Check.begin("the rule 1");
        expectNext("v4;m1,2,3,4;c1,1,1,1<5", 1, 3, 0);
        expectNext("v4;m4,3,2,1;c1,1,1,1<5", 1, 0, 0);
        expectNext("v4;m1,4,4,1;c1,1,1,1<5", 1, 1, 0);
        expectNext("v4;m4,4,4,4;c1,1,1,1<5", 1, 0, 0);
        expectNext("v4;m-9,0,1,0;c1,1,1,1<5", 1, 2, 0);
        expectNext("v4;m3,9,9,8;c1,9,9,1<5", 1, 1, 0);
        // A slack can be the one.
        SimplexDesk slack = Check.desk(SMALL, 1);
        slack.pivot(1, 1);
        slack.pivot(0, 0);
        Check.same("nextColumn", slack.nextColumn(), 3);
        Check.same("nextRow", slack.nextRow(), 1);
    }

    // "2: .. its reduced cost times its least ratio is the greatest, of several the lowest"
    private static void greatestGain() {
        Check.begin("the rule 2");
        expectNext("v4;m1,2,3,4;c1,2,3,4<12", 2, 0, 0);
        expectNext("v4;m1,2,3,4;c1,1,3,4<12", 2, 1, 0);
        expectNext("v4;m1,2,3,4;c9,9,9,1<12", 2, 3, 0);
        expectNext("v3;m9,1,1;c9,0,0<9;c0,1,0<10;c0,0,1<11", 2, 2, 2);
        expectNext("v3;m9,1,1;c9,0,0<99;c0,1,0<98;c0,0,1<99", 2, 0, 0);
        expectNext("v2;m-9,1;c1,1<5", 2, 1, 0);
        // The least ratio, not that of the first row, nor that of the last.
        expectNext("v2;m1,1;c1,1<9;c9,1<9;c1,1<9", 2, 1, 0);
        expectNext("v2;m1,1;c9,1<9;c1,1<9", 2, 1, 0);
        expectNext("v2;m1,1;c1,1<9;c9,1<9", 2, 1, 0);
    }

    // Gains of 0 are equal: the lowest column with a reduced cost above 0.
    private static void gainsOfZero() {
        Check.begin("gains of 0");
        expectNext("v3;m-1,1,9;c1,1,1<0", 2, 1, 0);
        expectNext("v3;m0,1,9;c0,1,1<0", 2, 1, 0);
        expectNext("v3;m1,1,9;c1,0,0<0;c0,1,0<1;c0,0,1<0", 2, 1, 1);
        expectNext("v3;m9,1,9;c1,0,0<0;c0,1,0<1;c0,0,1<0", 2, 1, 1);
    }

    // Reduced costs, ratios and gains that differ by less than 1.
    private static void fractionsInRules() {
        Check.begin("fractions in the rules");
        // 5/3 against 7/4, then 8/5 against 5/3
        expectNext("v2;m1,1;c3,0<5;c0,4<7", 2, 1, 1);
        expectNext("v2;m1,1;c5,0<8;c0,3<5", 2, 1, 1);
        expectNext("v2;m1,1;c4,0<7;c0,3<5", 2, 0, 0);
        expectNext("v2;m2,3;c6,0<9;c0,9<9", 2, 0, 0);
        // After the pivot in the row 0 the reduced costs are 3 - 8/3 and 4 - 32/9.
        SimplexDesk desk = Check.desk("v3;m8,3,4;c9,3,4<9;c0,1,1<9");
        desk.step();
        Check.fraction("reduced(1)", desk.reducedNumerator(1), desk.reducedDenominator(1), "1/3");
        Check.fraction("reduced(2)", desk.reducedNumerator(2), desk.reducedDenominator(2), "4/9");
        Check.same("nextColumn by the rule 0", desk.nextColumn(), 1);
        desk.setRule(1);
        Check.same("nextColumn by the rule 1", desk.nextColumn(), 2);
        // 1/3 * 3 and 4/9 * 9/4 are equal.
        desk.setRule(2);
        Check.same("nextColumn by the rule 2", desk.nextColumn(), 1);
    }

    // "The row is that with the least ratio with this column, of several the one that names the lowest column."
    private static void rowOfEqualRatios() {
        Check.begin("rows of equal ratios");
        expectNext("v1;m1;c1<2;c2<4;c3<6;c4<8", 0, 0, 0);
        expectNext("v1;m1;c1<3;c2<4;c3<6;c4<8", 0, 0, 1);
        expectNext("v1;m1;c0<0;c-1<0;c3<0;c4<0", 0, 0, 2);
        // The row 1 names the column 1, the row 0 the column 2: the lower column is in the higher row.
        SimplexDesk desk = Check.desk("v2;m3,2;c1,1<4;c1,2<4");
        desk.pivot(1, 1);
        Check.same("columnOf(0)", desk.columnOf(0), 2);
        Check.same("columnOf(1)", desk.columnOf(1), 1);
        for (int rule = 0; rule <= 2; rule++) {
            desk.setRule(rule);
            Check.same("whyNoPivot(0, 0)", desk.whyNoPivot(0, 0), 0);
            Check.same("whyNoPivot(1, 0)", desk.whyNoPivot(1, 0), 0);
            Check.same("nextRow", desk.nextRow(), 1);
        }
        // The ratios 2 and 4: the lowest column does not count then.
        SimplexDesk unlike = Check.desk("v2;m3,2;c1,1<3;c1,2<4");
        unlike.pivot(1, 1);
        Check.same("whyNoPivot(1, 0)", unlike.whyNoPivot(1, 0), 4);
        Check.same("nextRow", unlike.nextRow(), 0);
    }

    private static void rowOfTheLeastRatio() {
        Check.begin("the row of the least ratio");
        for (int row = 0; row < 4; row++) {
            SimplexDesk desk = Check.desk("v1;m1;c7<50;c7<50;c7<50;c7<50");
            desk.setBound(row, 49);
            Check.same("nextRow", desk.nextRow(), row);
            desk.setBound(row, 50);
            desk.setCoefficient(row, 0, 8);
            Check.same("nextRow", desk.nextRow(), row);
            desk.setBound(row, 0);
            Check.same("nextRow", desk.nextRow(), row);
        }
    }

    private static void expectNext(String text, int rule, int column, int row) {
        Twins.Maker maker = () -> Check.desk(text, rule);
        String part = " of " + text + " by the rule " + rule;
        Twins.looks(maker, "nextColumn" + part, column, SimplexDesk::nextColumn);
        Twins.looks(maker, "nextRow" + part, row, SimplexDesk::nextRow);
        SimplexDesk desk = maker.make();
        Check.same("step" + part, desk.step(), column);
        Check.same("columnOf" + part, desk.columnOf(row), column);
        SimplexDesk hand = maker.make();
        hand.pivot(row, column);
        Twins.alike("pivot and step" + part, hand, desk);
    }

    // step: "Makes a pivot by the rule."; "Returns the column that is named by it."
    private static void stepByEachRule() {
        Check.begin("step by each rule");
        int[] due = {0, 1, 2};
        for (int rule = 0; rule <= 2; rule++) {
            SimplexDesk desk = Check.desk("v3;m1,3,2;c1,9,1<9", rule);
            Check.same("step", desk.step(), due[rule]);
            Check.same("columnOf(0)", desk.columnOf(0), due[rule]);
            Check.same("pivots", desk.pivots(), 1);
        }
    }

    private static void stepUntilOptimal() {
        Check.begin("step until optimal");
        for (int rule = 0; rule <= 2; rule++) {
            SimplexDesk desk = Check.desk(Twins.FULL, rule);
            int left = desk.pivotsLeft();
            Check.same("some pivots are left", left > 0, true);
            for (int made = 0; made < left; made++) {
                Check.same("pivotsLeft", desk.pivotsLeft(), left - made);
                Check.same("isOptimal", desk.isOptimal(), false);
                desk.step();
            }
            Check.same("isOptimal", desk.isOptimal(), true);
            Check.text("step", Twins.answer(desk, SimplexDesk::step), Twins.STATE.getName());
            Check.same("pivots", desk.pivots(), left);
        }
    }

    private static void stepIntoRay() {
        Check.begin("step into a ray");
        SimplexDesk desk = Check.desk("v2;m1,-1;c1,-2<3");
        Check.same("hasRay", desk.hasRay(), false);
        Check.same("step", desk.step(), 0);
        Check.same("hasRay", desk.hasRay(), true);
        Check.same("rayColumn", desk.rayColumn(), 1);
        Check.text("step", Twins.answer(desk, SimplexDesk::step), Twins.STATE.getName());
    }

    // solve: "Returns how many pivots are made."
    private static void solveAnswers() {
        Check.begin("solve");
        Check.same("solve of a new object", new SimplexDesk().solve(), 0);
        Check.same("solve with one pivot", Check.desk("v1;m1;c1<5").solve(), 1);
        Check.same("solve with two", Check.desk(Twins.THREE).solve(), 2);
        SimplexDesk desk = Check.desk(Twins.THREE);
        desk.solve();
        Check.same("solve again", desk.solve(), 0);
        Check.same("pivots", desk.pivots(), 2);
    }

    // "To solve means to make pivots by the rule until the basis is optimal or has a ray"
    private static void solveIntoRay() {
        Check.begin("solve into a ray");
        Check.same("solve with a ray from the start", Check.desk(Twins.OPEN).solve(), 0);
        SimplexDesk desk = Check.desk("v2;m1,-1;c1,-2<3");
        Check.same("pivotsLeft", desk.pivotsLeft(), 1);
        Check.same("solve", desk.solve(), 1);
        Check.same("hasRay", desk.hasRay(), true);
        Check.same("isOptimal", desk.isOptimal(), false);
        Check.fraction("value", desk.valueNumerator(), desk.valueDenominator(), "3/1");
        Check.same("solve again", desk.solve(), 0);
    }

    // solve goes on from the basis of now, and does not begin it anew.
    private static void solveFromTheMiddle() {
        Check.begin("solve from the middle");
        SimplexDesk desk = Check.desk(SMALL);
        desk.pivot(1, 1);
        Check.same("solve", desk.solve(), 2);
        Check.same("pivots", desk.pivots(), 3);
        Check.same("columnOf(0)", desk.columnOf(0), 0);
        Check.same("columnOf(1)", desk.columnOf(1), 3);
    }

    // ".. but at most 40"
    private static void fortyPivots() {
        Check.begin("40 pivots");
        SimplexDesk desk = Twins.cycle(1);
        Check.same("pivotsLeft", desk.pivotsLeft(), 40);
        Check.same("solve", desk.solve(), 40);
        Check.same("pivots", desk.pivots(), 40);
        Check.same("idlePivots", desk.idlePivots(), 40);
        Check.same("isOptimal", desk.isOptimal(), false);
        Check.same("hasRay", desk.hasRay(), false);
        SimplexDesk twin = Twins.cycle(1);
        for (int made = 0; made < 40; made++) {
            twin.step();
        }
        Check.text("the state after 40 steps", Twins.state(desk), Twins.state(twin));
        twin.step();
        Check.same("a step more is possible", twin.pivots(), 41);
    }

    // The 40 are those of one call.
    private static void fortyPivotsEachTime() {
        Check.begin("40 pivots each time");
        SimplexDesk desk = Twins.cycle(1);
        for (int made = 0; made < 3; made++) {
            desk.step();
        }
        Check.same("pivotsLeft", desk.pivotsLeft(), 40);
        Check.same("solve", desk.solve(), 40);
        Check.same("pivotsLeft", desk.pivotsLeft(), 40);
        Check.same("solve again", desk.solve(), 40);
        Check.same("pivots", desk.pivots(), 83);
        Check.same("begin", desk.begin(), 83);
        Check.same("solve", desk.solve(), 40);
        Check.same("allPivots", desk.allPivots(), 123);
        for (int rule = 0; rule <= 2; rule += 2) {
            desk.begin();
            desk.setRule(rule);
            Check.same("solve by the rule " + rule + " has an end", desk.solve() < 40, true);
            Check.same("isOptimal or hasRay", desk.isOptimal() || desk.hasRay(), true);
        }
    }

    // setRule: "Changes the rule; the basis stays."; "Returns the previous rule."
    private static void ruleChangesNoBasis() {
        Check.begin("setRule from each to each");
        for (int before = 0; before <= 2; before++) {
            for (int rule = 0; rule <= 2; rule++) {
                SimplexDesk desk = Check.desk(Twins.THREE, before);
                desk.step();
                String state = Twins.state(desk);
                Check.same("setRule", desk.setRule(rule), before);
                Check.same("rule", desk.rule(), rule);
                Check.text("the state", Twins.state(desk), state.replace("rule " + before, "rule " + rule));
            }
        }
    }

    // "the pivots since the basis was begun"; "all pivots so far, those of former bases too"
    private static void pivotCounts() {
        Check.begin("pivots and allPivots");
        SimplexDesk desk = Check.desk(Twins.THREE);
        int all = 0;
        for (int round = 0; round < 5; round++) {
            Check.same("pivots", desk.pivots(), 0);
            Check.same("allPivots", desk.allPivots(), all);
            desk.step();
            Check.same("pivots", desk.pivots(), 1);
            desk.pivot(desk.nextRow(), desk.nextColumn());
            Check.same("pivots", desk.pivots(), 2);
            all += 2;
            Check.same("allPivots", desk.allPivots(), all);
            desk.setBound(0, 5);
        }
    }

    // "A pivot that leaves it as it was is called idle."
    private static void idleAtZero() {
        Check.begin("idle pivots");
        for (int bound = 0; bound <= 2; bound++) {
            for (int way = 0; way < 3; way++) {
                SimplexDesk desk = Check.desk("v1;m1;c9<" + bound);
                if (way == 0) {
                    desk.step();
                } else if (way == 1) {
                    desk.solve();
                } else {
                    desk.pivot(0, 0);
                }
                Check.same("allPivots", desk.allPivots(), 1);
                Check.same("idlePivots with the bound " + bound, desk.idlePivots(), bound == 0 ? 1 : 0);
            }
        }
        // Of equal ratios the one row leaves a right side of 0 behind: the next pivot there is idle.
        SimplexDesk equal = Check.desk("v2;m2,1;c1,0<4;c1,1<4");
        equal.step();
        Check.same("idlePivots", equal.idlePivots(), 0);
        equal.step();
        Check.same("idlePivots", equal.idlePivots(), 1);
        Check.fraction("value", equal.valueNumerator(), equal.valueDenominator(), "8/1");
        // A ratio of 0 beside one above 0.
        SimplexDesk two = Check.desk("v2;m1,1;c1,0<0;c0,1<1");
        Check.same("pivot(1, 1)", two.pivot(1, 1), 3);
        Check.same("idlePivots", two.idlePivots(), 0);
        Check.same("pivot(0, 0)", two.pivot(0, 0), 2);
        Check.same("idlePivots", two.idlePivots(), 1);
    }

    // "the idle pivots among all so far"
    private static void idleOfFormerBases() {
        Check.begin("idle pivots of former bases");
        SimplexDesk desk = Check.desk("v2;m1,1;c1,0<0;c0,1<5");
        for (int round = 1; round <= 4; round++) {
            Check.same("solve", desk.solve(), 2);
            Check.same("idlePivots", desk.idlePivots(), round);
            Check.same("allPivots", desk.allPivots(), 2 * round);
            desk.begin();
            Check.same("idlePivots", desk.idlePivots(), round);
        }
    }

    // pivotsLeft: "Returns how many pivots solve() would make.", and makes none.
    private static void pivotsLeftIsSolve() {
        Check.begin("pivotsLeft");
        String[] texts = {"v2;m0,0", "v1;m1", SMALL, Twins.THREE, Twins.OPEN, Twins.FULL, "v2;m1,-1;c1,-2<3",
            "v3;m9,8,7;c1,2,3<9;c3,1,2<9;c2,3,1<9"};
        for (String text : texts) {
            for (int rule = 0; rule <= 2; rule++) {
                int by = rule;
                Twins.Maker maker = () -> Check.desk(text, by);
                int due = maker.make().solve();
                Twins.looks(maker, "pivotsLeft of " + text + " by the rule " + rule, due, SimplexDesk::pivotsLeft);
            }
        }
        Twins.looks(() -> Twins.cycle(1), "pivotsLeft of a cycle", 40, SimplexDesk::pivotsLeft);
    }

    // "An object is used for at most 512 calls after it has been made": up to there the counts go on.
    private static void fiveHundredPivots() {
        Check.begin("counts after 500 calls");
        SimplexDesk desk = Twins.cycle(1);
        for (int made = 1; made <= 440; made++) {
            desk.step();
        }
        Check.same("pivots", desk.pivots(), 440);
        Check.same("allPivots", desk.allPivots(), 440);
        Check.same("idlePivots", desk.idlePivots(), 440);
        SimplexDesk solved = Twins.cycle(1);
        for (int made = 1; made <= 440; made++) {
            Check.same("solve", solved.solve(), 40);
        }
        Check.same("pivots", solved.pivots(), 17600);
        Check.same("begin", solved.begin(), 17600);
        Check.same("allPivots", solved.allPivots(), 17600);
        Check.same("idlePivots", solved.idlePivots(), 17600);
    }

    // "looks at the basis"
    private static void looksAtTheBasis() {
        Check.begin("looks at the basis");
        Twins.Maker maker = () -> {
            SimplexDesk desk = Check.desk(Twins.THREE);
            desk.keep();
            desk.step();
            return desk;
        };
        Twins.looks(maker, "columnOf(0)", 0, desk -> desk.columnOf(0));
        Twins.looks(maker, "columnOf(2)", 5, desk -> desk.columnOf(2));
        Twins.looks(maker, "isNamed(0)", 1, desk -> desk.isNamed(0) ? 1 : 0);
        Twins.looks(maker, "isNamed(3)", 0, desk -> desk.isNamed(3) ? 1 : 0);
        Twins.looks(maker, "isOptimal", 0, desk -> desk.isOptimal() ? 1 : 0);
        Twins.looks(maker, "hasRay", 0, desk -> desk.hasRay() ? 1 : 0);
        Twins.looks(maker, "pivots", 1, SimplexDesk::pivots);
        Twins.looks(maker, "allPivots", 1, SimplexDesk::allPivots);
        Twins.looks(maker, "idlePivots", 0, SimplexDesk::idlePivots);
        Twins.looks(maker, "whyNoPivot(2, 2)", 0, desk -> desk.whyNoPivot(2, 2));
        Twins.looks(maker, "whyNoPivot(0, 2)", 4, desk -> desk.whyNoPivot(0, 2));
    }
}
