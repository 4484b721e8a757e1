import java.util.Arrays;

/** The promises 35 to 56 and 61 to 64: fractions in lowest terms, duals, rays, all bases, bounds; and their edges. */
public final class NumberEdgesTest {
    private static final String SMALL = "v2;m3,2;c1,1<4;c1,3<6";
    // The tableau has the denominator 4 after a pivot in the row 0 and the column 0.
    private static final String FOURTHS = "v3;m2,1,0;c4,2,-6<10;c0,0,1<3";
    private static final String[] TEXTS = {"v1;m0", "v1;m1;c0<0", SMALL, FOURTHS, Twins.THREE, Twins.OPEN, Twins.FULL,
        "v2;m1,1;c0,1<3;c1,0<4", "v2;m1,1;c1,2<4;c2,1<4", "v3;m9,8,7;c7,2,3<9;c3,5,2<8;c2,3,9<7", "v2;m1,1;c1,0<0;c0,1<5",
        "v4;m1,2,3,4;c9,8,7,6<99;c5,-4,3,2<98;c-1,2,3,5<97"};

    private NumberEdgesTest() {
    }

    public static void main(String[] args) {
        lowestTermsOfEntries();
        lowestTermsOfReducedCosts();
        lowestTermsOfGiven();
        lowestTermsOfTheValue();
        lowestTermsOfDuals();
        lowestTermsOfRays();
        lowestTermsOfTheBest();
        lowestTermsOfSolved();
        denominatorsOfAll();
        givenOfColumnsThatAreNotNamed();
        equationsHold();
        reducedCostsAndValue();
        valueNeverFalls();
        valueAsDouble();
        dualsOfSlacks();
        dualsAnswerTheEquations();
        dualsBelowZero();
        dualValueIsTheValue();
        noDuals();
        rayGrowth();
        rayBehindAnotherColumn();
        oneBasis();
        basesWithSidesOfZero();
        basesWithSidesBelowZero();
        columnsThatAreNoBasis();
        seventyBases();
        basesWhateverTheRows();
        unlikeValues();
        bestOfFractions();
        bestOfNone();
        boundsOfEachBasis();
        boundsFromZeroOn();
        boundsUpToTheGreatest();
        boundsThatStayIntegers();
        boundThatCannotMove();
        solvedByEachBound();
        solvedByTheRuleOfNow();
        solvedIsBegun();
        solvedRefusedAndNot();
        looks();
        Check.end("NumberEdgesTest");
    }

    private static SimplexDesk fourths() {
        SimplexDesk desk = Check.desk(FOURTHS);
        desk.step();
        return desk;
    }

    private static SimplexDesk walked(String text, int rule, int steps) {
        SimplexDesk desk = Check.desk(text, rule);
        for (int made = 0; made < steps && !desk.isOptimal() && !desk.hasRay(); made++) {
            desk.step();
        }
        return desk;
    }

    // "a denominator, which is 1 or more and has no common divisor with the numerator above 1 (0 is 0 and 1)"
    private static void lowestTermsOfEntries() {
        Check.begin("lowest terms of entries");
        SimplexDesk desk = fourths();
        String[][] due = {{"1/1", "1/2", "-3/2", "1/4", "0/1"}, {"0/1", "0/1", "1/1", "0/1", "1/1"}};
        for (int row = 0; row < 2; row++) {
            for (int column = 0; column < 5; column++) {
                Check.fraction("entry(" + row + ", " + column + ")", desk.entryNumerator(row, column),
                        desk.entryDenominator(row, column), due[row][column]);
            }
        }
    }

    private static void lowestTermsOfReducedCosts() {
        Check.begin("lowest terms of reduced costs");
        SimplexDesk desk = fourths();
        String[] due = {"0/1", "0/1", "3/1", "-1/2", "0/1"};
        for (int column = 0; column < 5; column++) {
            Check.fraction("reduced(" + column + ")", desk.reducedNumerator(column), desk.reducedDenominator(column),
                    due[column]);
        }
    }

    private static void lowestTermsOfGiven() {
        Check.begin("lowest terms of what is given");
        SimplexDesk desk = fourths();
        String[] due = {"5/2", "0/1", "0/1", "0/1", "3/1"};
        for (int column = 0; column < 5; column++) {
            Check.fraction("given(" + column + ")", desk.givenNumerator(column), desk.givenDenominator(column), due[column]);
        }
    }

    private static void lowestTermsOfTheValue() {
        Check.begin("lowest terms of the value");
        for (int bound = 0; bound <= 99; bound++) {
            SimplexDesk desk = Check.desk("v1;m3;c6<" + bound);
            desk.step();
            String due = bound % 2 == 0 ? bound / 2 + "/1" : bound + "/2";
            Check.fraction("value", desk.valueNumerator(), desk.valueDenominator(), due);
            Check.fraction("dualValue", desk.dualValueNumerator(), desk.dualValueDenominator(), due);
        }
    }

    private static void lowestTermsOfDuals() {
        Check.begin("lowest terms of duals");
        expectDuals(fourths(), "1/2", "0/1");
        SimplexDesk whole = Check.desk("v1;m6;c3<5;c1<9");
        whole.step();
        expectDuals(whole, "2/1", "0/1");
        SimplexDesk thirds = Check.desk("v2;m1,1;c1,2<4;c2,1<4");
        thirds.solve();
        expectDuals(thirds, "1/3", "1/3");
    }

    private static void expectDuals(SimplexDesk desk, String... due) {
        for (int constraint = 0; constraint < due.length; constraint++) {
            Check.fraction("dual(" + constraint + ")", desk.dualNumerator(constraint), desk.dualDenominator(constraint),
                    due[constraint]);
            Check.fraction("dual by equations(" + constraint + ")", desk.dualNumeratorByEquations(constraint),
                    desk.dualDenominatorByEquations(constraint), due[constraint]);
        }
    }

    private static void lowestTermsOfRays() {
        Check.begin("lowest terms of rays");
        expectRay("v2;m1,1;c4,-6<8;c0,0<3", "3/2", "1/1", "0/1", "0/1");
        expectRay("v2;m1,1;c4,-8<8;c0,0<3", "2/1", "1/1", "0/1", "0/1");
        expectRay("v2;m1,1;c4,-9<8;c0,-1<3", "9/4", "1/1", "0/1", "1/1");
        expectRay("v2;m1,1;c4,0<8;c0,-2<3", "0/1", "1/1", "0/1", "2/1");
    }

    // The ray of the column 1 after a pivot in the row 0 and the column 0.
    private static void expectRay(String text, String... due) {
        SimplexDesk desk = Check.desk(text);
        desk.pivot(0, 0);
        Check.same("rayColumn", desk.rayColumn(), 1);
        for (int column = 0; column < due.length; column++) {
            Check.fraction("ray(" + column + ")", desk.rayNumerator(column), desk.rayDenominator(column), due[column]);
        }
    }

    private static void lowestTermsOfTheBest() {
        Check.begin("lowest terms of the best value");
        expectBases("v1;m2;c4<6", 2, 2, "3/1");
        expectBases("v1;m3;c4<6", 2, 2, "9/2");
        expectBases("v1;m0;c4<6", 2, 1, "0/1");
        expectBases("v2;m1,1;c1,2<4;c2,1<4", 4, 3, "8/3");
    }

    private static void expectBases(String text, int feasible, int unlike, String best) {
        SimplexDesk desk = Check.desk(text);
        Check.same("feasibleBases of " + text, desk.feasibleBases(), feasible);
        Check.same("unlikeValues of " + text, desk.unlikeValues(), unlike);
        Check.fraction("best of " + text, desk.bestNumerator(), desk.bestDenominator(), best);
    }

    private static void lowestTermsOfSolved() {
        Check.begin("lowest terms of solved values");
        SimplexDesk desk = Check.desk("v1;m3;c6<1");
        for (int bound = 0; bound <= 99; bound++) {
            String due = bound % 2 == 0 ? bound / 2 + "/1" : bound + "/2";
            Check.fraction("solved(0, " + bound + ")", desk.solvedNumerator(0, bound), desk.solvedDenominator(0, bound), due);
        }
    }

    // In each basis on the way, by each rule: every denominator is 1 or more, and no fraction can be reduced.
    private static void denominatorsOfAll() {
        Check.begin("lowest terms of all fractions");
        for (String text : TEXTS) {
            for (int way = 0; way < 12; way++) {
                SimplexDesk desk = walked(text, way % 3, way / 3);
                for (int column = 0; column < desk.variables() + desk.constraints(); column++) {
                    isLow(desk.reducedNumerator(column), desk.reducedDenominator(column));
                    isLow(desk.givenNumerator(column), desk.givenDenominator(column));
                    for (int row = 0; row < desk.constraints(); row++) {
                        isLow(desk.entryNumerator(row, column), desk.entryDenominator(row, column));
                    }
                    if (desk.hasRay()) {
                        isLow(desk.rayNumerator(column), desk.rayDenominator(column));
                    }
                }
                for (int row = 0; row < desk.constraints(); row++) {
                    isLow(desk.dualNumerator(row), desk.dualDenominator(row));
                    isLow(desk.dualNumeratorByEquations(row), desk.dualDenominatorByEquations(row));
                }
                isLow(desk.valueNumerator(), desk.valueDenominator());
                isLow(desk.dualValueNumerator(), desk.dualValueDenominator());
                isLow(desk.bestNumerator(), desk.bestDenominator());
            }
        }
    }

    private static void isLow(long numerator, long denominator) {
        boolean low = denominator >= 1;
        for (long divisor = 2; divisor <= denominator; divisor++) {
            low &= numerator % divisor != 0 || denominator % divisor != 0;
        }
        Check.same(numerator + "/" + denominator + " is in lowest terms", low, true);
    }

    // "its solution then gives the column of each row the right side, and all other columns 0"
    private static void givenOfColumnsThatAreNotNamed() {
        Check.begin("what columns are given");
        for (String text : TEXTS) {
            SimplexDesk desk = walked(text, 0, 2);
            for (int column = 0; column < desk.variables() + desk.constraints(); column++) {
                if (!desk.isNamed(column)) {
                    Check.fraction("given(" + column + ")", desk.givenNumerator(column), desk.givenDenominator(column), "0/1");
                }
                Check.same("given is not below 0", desk.givenNumerator(column) >= 0, true);
            }
        }
    }

    // "the m equations can be rewritten .. in one way so that the column of each row has the factor 1 in this row, and
    // 0 in all others": and what is given answers the first equations.
    private static void equationsHold() {
        Check.begin("equations");
        for (String text : TEXTS) {
            for (int way = 0; way < 12; way++) {
                SimplexDesk desk = walked(text, way % 3, way / 3);
                for (int row = 0; row < desk.constraints(); row++) {
                    for (int other = 0; other < desk.constraints(); other++) {
                        Check.fraction("entry of a named column", desk.entryNumerator(other, desk.columnOf(row)),
                                desk.entryDenominator(other, desk.columnOf(row)), other == row ? "1/1" : "0/1");
                    }
                    int slack = desk.variables() + row;
                    double sum = (double) desk.givenNumerator(slack) / desk.givenDenominator(slack);
                    for (int variable = 0; variable < desk.variables(); variable++) {
                        sum += desk.coefficientOf(row, variable) * (double) desk.givenNumerator(variable)
                                / desk.givenDenominator(variable);
                    }
                    Check.same("the sum is the bound", Math.abs(sum - desk.boundOf(row)) < 1e-9, true);
                }
            }
        }
    }

    // "its profit less the sum, over the rows, of the profit of the column of the row times the entry"; "the sum, over
    // the rows, of the profit of the column of the row times the right side"
    private static void reducedCostsAndValue() {
        Check.begin("reduced costs and the value");
        for (String text : TEXTS) {
            for (int way = 0; way < 12; way++) {
                SimplexDesk desk = walked(text, way % 3, way / 3);
                double value = 0;
                double[] reduced = new double[desk.variables() + desk.constraints()];
                for (int column = 0; column < reduced.length; column++) {
                    reduced[column] = profit(desk, column);
                }
                for (int row = 0; row < desk.constraints(); row++) {
                    int named = desk.columnOf(row);
                    double profit = profit(desk, named);
                    value += profit * desk.givenNumerator(named) / desk.givenDenominator(named);
                    for (int column = 0; column < reduced.length; column++) {
                        reduced[column] -= profit * desk.entryNumerator(row, column) / desk.entryDenominator(row, column);
                    }
                }
                near("value", desk.valueNumerator(), desk.valueDenominator(), value);
                for (int column = 0; column < reduced.length; column++) {
                    near("reduced", desk.reducedNumerator(column), desk.reducedDenominator(column), reduced[column]);
                }
            }
        }
    }

    private static int profit(SimplexDesk desk, int column) {
        return column < desk.variables() ? desk.profitOf(column) : 0;
    }

    private static void near(String what, long numerator, long denominator, double due) {
        boolean near = Math.abs((double) numerator / denominator - due) < 1e-9;
        Check.same(what + " " + numerator + "/" + denominator + " is " + due, near, true);
    }

    // "(So the value does not fall by a pivot. A pivot that leaves it as it was is called idle.)"
    private static void valueNeverFalls() {
        Check.begin("the value does not fall");
        for (String text : TEXTS) {
            for (int way = 0; way < 6; way++) {
                SimplexDesk start = walked(text, way % 3, way / 3);
                int columns = start.variables() + start.constraints();
                for (int cell = 0; cell < start.constraints() * columns; cell++) {
                    int row = cell / columns;
                    int column = cell % columns;
                    SimplexDesk desk = walked(text, way % 3, way / 3);
                    if (desk.whyNoPivot(row, column) == 0) {
                        int idle = desk.idlePivots();
                        long top = desk.valueNumerator();
                        long bottom = desk.valueDenominator();
                        desk.pivot(row, column);
                        long more = desk.valueNumerator() * bottom - top * desk.valueDenominator();
                        Check.same("the value falls", more < 0, false);
                        Check.same("idlePivots", desk.idlePivots(), more == 0 ? idle + 1 : idle);
                    }
                }
            }
        }
    }

    // value: "Returns the numerator of the value, as a double, divided by the denominator."
    private static void valueAsDouble() {
        Check.begin("the value as a double");
        Check.same("value of a new object", Double.doubleToLongBits(new SimplexDesk().value()), 0L);
        for (int factor = 1; factor <= 9; factor++) {
            for (int bound = 0; bound <= 99; bound++) {
                SimplexDesk desk = Check.desk("v1;m7;c" + factor + "<" + bound);
                desk.step();
                double due = (double) desk.valueNumerator() / (double) desk.valueDenominator();
                Check.same("value", Double.doubleToLongBits(desk.value()), Double.doubleToLongBits(due));
                Check.same("7 * " + bound + " / " + factor, desk.value() == 7.0 * bound / factor, true);
            }
        }
    }

    // "(The dual of the constraint i is also the reduced cost of the column n + i with the other sign.)"
    private static void dualsOfSlacks() {
        Check.begin("duals and the reduced costs of slacks");
        for (String text : TEXTS) {
            for (int way = 0; way < 12; way++) {
                SimplexDesk desk = walked(text, way % 3, way / 3);
                for (int constraint = 0; constraint < desk.constraints(); constraint++) {
                    int slack = desk.variables() + constraint;
                    String due = -desk.reducedNumerator(slack) + "/" + desk.reducedDenominator(slack);
                    Check.fraction("dual", desk.dualNumerator(constraint), desk.dualDenominator(constraint), due);
                    Check.fraction("dual by equations", desk.dualNumeratorByEquations(constraint),
                            desk.dualDenominatorByEquations(constraint), due);
                }
            }
        }
    }

    // "for the column of each row the sum .. of the dual of i times the factor of the column in the first equation of
    // the row i, is the profit of the column"
    private static void dualsAnswerTheEquations() {
        Check.begin("duals by the equations");
        for (String text : TEXTS) {
            for (int way = 0; way < 12; way++) {
                SimplexDesk desk = walked(text, way % 3, way / 3);
                for (int row = 0; row < desk.constraints(); row++) {
                    int column = desk.columnOf(row);
                    int variables = desk.variables();
                    double sum = 0;
                    for (int constraint = 0; constraint < desk.constraints(); constraint++) {
                        int factor = column < variables ? desk.coefficientOf(constraint, column)
                                : column == variables + constraint ? 1 : 0;
                        sum += factor * (double) desk.dualNumeratorByEquations(constraint)
                                / desk.dualDenominatorByEquations(constraint);
                    }
                    int profit = column < variables ? desk.profitOf(column) : 0;
                    Check.same("the sum is the profit", Math.abs(sum - profit) < 1e-9, true);
                }
            }
        }
    }

    private static void dualsBelowZero() {
        Check.begin("duals below 0");
        SimplexDesk desk = Check.desk(SMALL);
        desk.pivot(1, 1);
        desk.pivot(0, 0);
        expectDuals(desk, "7/2", "-1/2");
        Check.fraction("dualValue", desk.dualValueNumerator(), desk.dualValueDenominator(), "11/1");
    }

    // dualValueNumerator: "the sum of all duals times the bounds of their constraints"
    private static void dualValueIsTheValue() {
        Check.begin("the sum of duals times bounds");
        for (String text : TEXTS) {
            for (int way = 0; way < 12; way++) {
                SimplexDesk desk = walked(text, way % 3, way / 3);
                Check.fraction("dualValue", desk.dualValueNumerator(), desk.dualValueDenominator(),
                        desk.valueNumerator() + "/" + desk.valueDenominator());
            }
        }
    }

    private static void noDuals() {
        Check.begin("no constraint, no duals");
        SimplexDesk desk = Check.desk("v4;m9,9,9,9");
        Check.fraction("dualValue", desk.dualValueNumerator(), desk.dualValueDenominator(), "0/1");
        Check.text("dual(0)", Twins.answer(desk, d -> d.dualNumerator(0)), Twins.INDEX.getName());
        Check.text("dual(0)", Twins.answer(desk, d -> d.dualNumeratorByEquations(0)), Twins.INDEX.getName());
        SimplexDesk begun = Check.desk(Twins.FULL);
        expectDuals(begun, "0/1", "0/1", "0/1", "0/1");
    }

    // "for the column of the ray 1, for the column of a row the entry .. with the other sign, for all others 0"
    private static void rayGrowth() {
        Check.begin("what grows along the ray");
        SimplexDesk desk = Twins.ray();
        int open = desk.rayColumn();
        for (int column = 0; column < 3; column++) {
            long numerator = column == open ? 1 : 0;
            long denominator = 1;
            for (int row = 0; row < desk.constraints(); row++) {
                if (desk.columnOf(row) == column) {
                    numerator = -desk.entryNumerator(row, open);
                    denominator = desk.entryDenominator(row, open);
                }
            }
            Check.fraction("ray(" + column + ")", desk.rayNumerator(column), desk.rayDenominator(column),
                    numerator + "/" + denominator);
        }
        SimplexDesk slack = Check.desk("v2;m2,1;c2,-3<4;c2,-1<8");
        slack.pivot(0, 0);
        slack.pivot(1, 1);
        String[] due = {"1/4", "1/2", "1/1", "0/1"};
        for (int column = 0; column < 4; column++) {
            Check.fraction("ray(" + column + ")", slack.rayNumerator(column), slack.rayDenominator(column), due[column]);
        }
        SimplexDesk bare = Twins.sized(4, 0);
        for (int column = 0; column < 4; column++) {
            Check.fraction("ray(" + column + ")", bare.rayNumerator(column), bare.rayDenominator(column),
                    column == 0 ? "1/1" : "0/1");
        }
    }

    // rayColumn: "the lowest one with a reduced cost above 0 and no entry above 0"
    private static void rayBehindAnotherColumn() {
        Check.begin("the lowest column of a ray");
        Check.same("rayColumn", Check.desk("v4;m1,1,1,1;c1,0,-1,0<5").rayColumn(), 1);
        Check.same("rayColumn", Check.desk("v4;m1,0,1,1;c1,0,-1,0<5").rayColumn(), 2);
        Check.same("rayColumn", Check.desk("v4;m-1,0,-1,1;c0,0,-1,0<5").rayColumn(), 3);
        Check.same("rayColumn", Check.desk("v4;m1,1,1,1;c-1,0,-1,0<5").rayColumn(), 0);
        Check.same("rayColumn", Check.desk("v4;m1,1,1,1").rayColumn(), 0);
    }

    // feasibleBases: without a constraint there is one basis, which names nothing.
    private static void oneBasis() {
        Check.begin("one basis");
        for (int many = 1; many <= 4; many++) {
            expectBases("v" + many + ";m9" + ",9".repeat(many - 1), 1, 1, "0/1");
        }
        expectBases("v1;m9;c0<5", 1, 1, "0/1");
        expectBases("v1;m9;c0<0;c0<0;c0<0;c0<0", 1, 1, "0/1");
    }

    // "The basis is feasible, if no right side is below 0": 0 is not below 0.
    private static void basesWithSidesOfZero() {
        Check.begin("right sides of 0");
        expectBases("v1;m9;c1<0", 2, 1, "0/1");
        expectBases("v1;m9;c-1<0", 2, 1, "0/1");
        expectBases("v1;m1;c1<0;c-1<0", 3, 1, "0/1");
        expectBases("v1;m1;c1<2;c2<4", 3, 2, "2/1");
        expectBases("v1;m1;c1<0;c1<1", 2, 1, "0/1");
    }

    private static void basesWithSidesBelowZero() {
        Check.begin("right sides below 0");
        expectBases("v1;m9;c-1<1", 1, 1, "0/1");
        expectBases("v1;m1;c1<2;c2<5", 2, 2, "2/1");
        expectBases("v1;m1;c9<1;c8<1", 2, 2, "1/9");
        expectBases("v2;m1,1;c1,-1<1;c-1,1<1", 3, 2, "1/1");
    }

    // Columns for which the equations cannot be rewritten are no basis.
    private static void columnsThatAreNoBasis() {
        Check.begin("columns that are no basis");
        expectBases("v2;m1,1;c1,1<2;c2,2<4", 5, 2, "2/1");
        expectBases("v2;m1,1;c0,1<2", 2, 2, "2/1");
        expectBases("v2;m1,1;c1,0<2;c1,0<2", 3, 2, "2/1");
    }

    // All ways to choose 4 of 8 columns: with bounds of 0 each basis is feasible, and all have the value 0.
    private static void seventyBases() {
        Check.begin("70 bases");
        SimplexDesk desk = Twins.sized(4, 4);
        int[] factors = {-1, 5, 3, -7, -4, -7, 5, -4, -5, -8, -9, 7, 1, 1, 4, -1};
        for (int cell = 0; cell < 16; cell++) {
            desk.setCoefficient(cell / 4, cell % 4, factors[cell]);
        }
        for (int row = 0; row < 4; row++) {
            desk.setBound(row, 0);
            desk.setProfit(row, row + 1);
        }
        Check.same("feasibleBases", desk.feasibleBases(), 70);
        Check.same("unlikeValues", desk.unlikeValues(), 1);
        Check.fraction("best", desk.bestNumerator(), desk.bestDenominator(), "0/1");
    }

    // "bases with the same columns counted once, in whatever rows"; the basis of now does not count.
    private static void basesWhateverTheRows() {
        Check.begin("bases in whatever rows");
        for (String text : TEXTS) {
            SimplexDesk first = Check.desk(text);
            for (int way = 0; way < 12; way++) {
                SimplexDesk desk = walked(text, way % 3, way / 3);
                Check.same("feasibleBases", desk.feasibleBases(), first.feasibleBases());
                Check.same("unlikeValues", desk.unlikeValues(), first.unlikeValues());
                Check.fraction("best", desk.bestNumerator(), desk.bestDenominator(),
                        first.bestNumerator() + "/" + first.bestDenominator());
            }
        }
        expectBases("v2;m1,1;c1,0<1;c0,1<1", 4, 3, "2/1");
    }

    // unlikeValues: fractions of the same value are one, of values close together are two.
    private static void unlikeValues() {
        Check.begin("unlike values");
        expectBases("v2;m1,2;c2,4<1", 3, 2, "1/2");
        expectBases("v2;m1,2;c4,8<6", 3, 2, "3/2");
        expectBases("v2;m9,8;c8,7<1", 3, 3, "8/7");
        expectBases("v4;m1,1,1,1;c1,1,1,1<9", 5, 2, "9/1");
        expectBases("v4;m1,2,3,4;c1,1,1,1<9", 5, 5, "36/1");
        expectBases("v2;m1,-1;c1,1<9", 3, 3, "9/1");
        expectBases("v4;m0,0,0,0;c1,2,3,4<9", 5, 1, "0/1");
    }

    private static void bestOfFractions() {
        Check.begin("the greatest of fractions");
        expectBases("v2;m5,7;c3,4<1", 3, 3, "7/4");
        expectBases("v2;m7,5;c4,3<1", 3, 3, "7/4");
        expectBases("v2;m5,8;c3,5<1", 3, 3, "5/3");
        expectBases("v2;m8,5;c5,3<1", 3, 3, "5/3");
        expectBases("v3;m7,8,9;c6,7,8<5", 4, 4, "35/6");
        expectBases("v2;m1,1;c3,0<5;c0,4<7", 4, 4, "41/12");
    }

    // The basis of slacks is always feasible: no best value is below 0. Without a bound it is that of a basis.
    private static void bestOfNone() {
        Check.begin("the greatest of values below 0, and of problems without a bound");
        expectBases("v1;m-9;c1<5", 2, 2, "0/1");
        expectBases("v2;m-9,-1;c3,7<5", 3, 3, "0/1");
        expectBases(Twins.OPEN, 2, 2, "3/2");
        expectBases("v2;m1,9;c1,-1<5", 2, 2, "5/1");
    }

    // "(no right side of the tableau of the same basis is below 0)": each bound from 0 to 99, told by the entries.
    private static void boundsOfEachBasis() {
        Check.begin("leastBound and greatestBound of each basis");
        for (String text : TEXTS) {
            for (int way = 0; way < 12; way++) {
                SimplexDesk desk = walked(text, way % 3, way / 3);
                for (int constraint = 0; constraint < desk.constraints(); constraint++) {
                    int least = desk.leastBound(constraint);
                    int greatest = desk.greatestBound(constraint);
                    boolean[] feasible = feasibleBounds(desk, constraint);
                    for (int bound = 0; bound <= 99; bound++) {
                        Check.same(text + " with " + bound, least <= bound && bound <= greatest, feasible[bound]);
                    }
                }
            }
        }
    }

    private static boolean[] feasibleBounds(SimplexDesk desk, int constraint) {
        boolean[] feasible = new boolean[100];
        Arrays.fill(feasible, true);
        int now = desk.boundOf(constraint);
        int slack = desk.variables() + constraint;
        for (int row = 0; row < desk.constraints(); row++) {
            int column = desk.columnOf(row);
            long side = desk.givenNumerator(column) * desk.entryDenominator(row, slack);
            long share = desk.entryNumerator(row, slack) * desk.givenDenominator(column);
            for (int bound = 0; bound <= 99; bound++) {
                feasible[bound] &= side + (bound - now) * share >= 0;
            }
        }
        return feasible;
    }

    // leastBound: "from 0 on"; "at most that of now"
    private static void boundsFromZeroOn() {
        Check.begin("leastBound from 0 on");
        expectBounds(Check.desk("v1;m1;c1<0"), 0, 0, 99);
        expectBounds(Check.desk("v1;m1;c1<99"), 0, 0, 99);
        expectBounds(walked("v1;m1;c1<0", 0, 1), 0, 0, 99);
        expectBounds(walked("v1;m1;c9<5", 0, 1), 0, 0, 99);
        expectBounds(walked("v1;m1;c1<1;c1<2", 0, 1), 1, 1, 99);
        expectBounds(walked("v1;m1;c1<0;c1<2", 0, 1), 1, 0, 99);
        expectBounds(walked("v1;m1;c1<98;c1<99", 0, 1), 1, 98, 99);
        // The right side stays 0 or more down to the bound -8: the first variable is 10.
        expectBounds(walked("v2;m1,1;c1,-1<1;c0,1<9", 0, 2), 0, 0, 99);
    }

    // greatestBound: "up to 99"; "at least that of now"
    private static void boundsUpToTheGreatest() {
        Check.begin("greatestBound up to 99");
        expectBounds(walked("v1;m1;c1<1;c1<2", 0, 1), 0, 0, 2);
        expectBounds(walked("v1;m1;c1<1;c1<98", 0, 1), 0, 0, 98);
        expectBounds(walked("v1;m1;c1<1;c1<99", 0, 1), 0, 0, 99);
        expectBounds(walked("v1;m1;c2<1;c1<99", 0, 1), 0, 0, 99);
        expectBounds(walked("v1;m1;c1<99;c1<99", 0, 1), 0, 0, 99);
        expectBounds(walked("v1;m1;c1<0;c1<0", 0, 1), 0, 0, 0);
        expectBounds(walked("v1;m1;c1<0;c1<0", 0, 1), 1, 0, 99);
        // No right side falls up to the bound 108.
        expectBounds(walked("v1;m1;c9<9;c1<12", 0, 1), 0, 0, 99);
        expectBounds(walked("v1;m1;c9<9;c1<11", 0, 1), 0, 0, 99);
        expectBounds(walked("v1;m1;c9<9;c1<10", 0, 1), 0, 0, 90);
    }

    // The last bound with which a right side is 0, and where it would be a fraction, the next integer within.
    private static void boundsThatStayIntegers() {
        Check.begin("bounds within fractions");
        expectBounds(walked("v1;m1;c2<4;c3<9", 0, 1), 0, 0, 6);
        expectBounds(walked("v1;m1;c2<4;c3<10", 0, 1), 0, 0, 6);
        expectBounds(walked("v1;m1;c2<4;c3<11", 0, 1), 0, 0, 7);
        expectBounds(walked("v1;m1;c2<4;c3<11", 0, 1), 1, 6, 99);
        expectBounds(walked("v1;m1;c2<5;c3<11", 0, 1), 1, 8, 99);
        expectBounds(walked("v1;m1;c7<5;c9<11", 0, 1), 1, 7, 99);
    }

    private static void boundThatCannotMove() {
        Check.begin("a bound that cannot move");
        SimplexDesk desk = Check.desk("v2;m1,1;c1,0<5;c1,0<5;c1,1<5");
        desk.pivot(0, 0);
        expectBounds(desk, 0, 0, 5);
        expectBounds(desk, 1, 5, 99);
        expectBounds(desk, 2, 5, 99);
        SimplexDesk stuck = Check.desk("v2;m2,1;c1,0<5;c1,1<5;c0,1<0");
        stuck.pivot(0, 0);
        stuck.pivot(1, 1);
        expectBounds(stuck, 0, 5, 5);
        expectBounds(stuck, 1, 5, 5);
        expectBounds(stuck, 2, 0, 99);
    }

    private static void expectBounds(SimplexDesk desk, int constraint, int least, int greatest) {
        Check.same("leastBound(" + constraint + ")", desk.leastBound(constraint), least);
        Check.same("greatestBound(" + constraint + ")", desk.greatestBound(constraint), greatest);
    }

    // solvedNumerator: "the value that would come out, if a constraint had another bound, and it was begun and solved"
    private static void solvedByEachBound() {
        Check.begin("solved by each bound");
        for (String text : new String[] {SMALL, Twins.THREE, Twins.FULL, "v2;m1,1;c1,2<4;c2,1<4"}) {
            int constraints = Check.desk(text).constraints();
            for (int constraint = 0; constraint < constraints; constraint++) {
                SimplexDesk desk = walked(text, constraint % 3, 1);
                for (int bound = 0; bound <= 99; bound++) {
                    SimplexDesk other = Check.desk(text, constraint % 3);
                    other.setBound(constraint, bound);
                    other.solve();
                    Check.fraction("solved(" + constraint + ", " + bound + ")", desk.solvedNumerator(constraint, bound),
                            desk.solvedDenominator(constraint, bound),
                            other.valueNumerator() + "/" + other.valueDenominator());
                }
            }
        }
    }

    // "if this basis would not be optimal": by the rule 1 it goes round, by the others it has an end.
    private static void solvedByTheRuleOfNow() {
        Check.begin("solved by the rule of now");
        for (int constraint = 0; constraint < 4; constraint++) {
            for (int rule = 0; rule <= 2; rule++) {
                int row = constraint;
                SimplexDesk desk = Twins.cycle(rule);
                String due = rule == 1 ? Twins.STATE.getName() : "0";
                Check.text("solvedNumerator", Twins.answer(desk, d -> d.solvedNumerator(row, 0)), due);
                due = rule == 1 ? Twins.STATE.getName() : "1";
                Check.text("solvedDenominator", Twins.answer(desk, d -> d.solvedDenominator(row, 0)), due);
                String value = row % 2 == 0 ? "0/1" : "18/1";
                Check.fraction("solved with another bound", desk.solvedNumerator(row, 9), desk.solvedDenominator(row, 9), value);
            }
        }
    }

    // ".. it was begun": what the basis of now has does not count, neither its pivots nor its ray.
    private static void solvedIsBegun() {
        Check.begin("solved from the beginning");
        for (int steps = 0; steps <= 2; steps++) {
            SimplexDesk desk = walked(Twins.THREE, 0, steps);
            Check.fraction("solved(0, 5)", desk.solvedNumerator(0, 5), desk.solvedDenominator(0, 5), "13/1");
            Check.fraction("solved(0, 0)", desk.solvedNumerator(0, 0), desk.solvedDenominator(0, 0), "0/1");
            Check.same("pivots", desk.pivots(), steps);
            Check.same("allPivots", desk.allPivots(), steps);
            Check.same("boundOf(0)", desk.boundOf(0), 5);
        }
    }

    private static void solvedRefusedAndNot() {
        Check.begin("solved with a ray");
        SimplexDesk ray = Check.desk("v2;m1,-1;c1,-2<3");
        for (int bound = 0; bound <= 99; bound += 33) {
            int other = bound;
            Check.text("solvedNumerator", Twins.answer(ray, d -> d.solvedNumerator(0, other)), Twins.STATE.getName());
            Check.text("solvedDenominator", Twins.answer(ray, d -> d.solvedDenominator(0, other)), Twins.STATE.getName());
        }
        SimplexDesk optimal = Check.desk("v2;m0,-1;c1,-2<3");
        Check.fraction("solved without a pivot", optimal.solvedNumerator(0, 99), optimal.solvedDenominator(0, 99), "0/1");
    }

    private static void looks() {
        Check.begin("looks that change nothing");
        Twins.Maker maker = () -> {
            SimplexDesk desk = Twins.prepared(6);
            desk.setBound(0, 5);
            desk.step();
            return desk;
        };
        Twins.Use[] uses = {d -> d.entryNumerator(0, 1), d -> d.entryDenominator(0, 1), d -> d.reducedNumerator(1),
            d -> d.reducedDenominator(1), SimplexDesk::valueNumerator, SimplexDesk::valueDenominator,
            d -> d.givenNumerator(0), d -> d.givenDenominator(0), d -> (long) d.value(), d -> d.dualNumerator(0),
            d -> d.dualDenominator(0), d -> d.dualNumeratorByEquations(0), d -> d.dualDenominatorByEquations(0),
            SimplexDesk::dualValueNumerator, SimplexDesk::dualValueDenominator, SimplexDesk::feasibleBases,
            SimplexDesk::unlikeValues, SimplexDesk::bestNumerator, SimplexDesk::bestDenominator, SimplexDesk::nextColumn,
            SimplexDesk::nextRow, SimplexDesk::pivotsLeft, d -> d.leastBound(0), d -> d.greatestBound(0),
            d -> d.solvedNumerator(0, 99), d -> d.solvedDenominator(0, 99), SimplexDesk::digest};
        for (int index = 0; index < uses.length; index++) {
            SimplexDesk desk = maker.make();
            String first = Twins.answer(desk, uses[index]);
            Check.same("an answer of the look " + index + ", " + first, first.startsWith("java"), false);
            Check.text("the same answer again", Twins.answer(desk, uses[index]), first);
            Twins.alike("the look " + index, desk, maker.make());
        }
        Twins.looks(Twins::ray, "rayColumn", 0, SimplexDesk::rayColumn);
        Twins.looks(Twins::ray, "rayNumerator(1)", 3, desk -> desk.rayNumerator(1));
        Twins.looks(Twins::ray, "rayDenominator(1)", 2, desk -> desk.rayDenominator(1));
    }
}
