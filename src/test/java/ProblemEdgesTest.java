/** "Problems" and the promises 1 to 7 and 22 to 27: the first and the last of each number, and what is gone is gone. */
public final class ProblemEdgesTest {
    private ProblemEdgesTest() {
    }

    public static void main(String[] args) {
        newVariables();
        newConstraints();
        newRuleAndBasis();
        newTexts();
        eachNumberOfVariables();
        newVariablesAreNothing();
        goneVariables();
        goneVariablesCountNoMore();
        sameNumberOfVariables();
        eachProfit();
        profitOfEachVariable();
        eachBoundAdded();
        numbersOfConstraints();
        addedCoefficients();
        fifthConstraint();
        eachCoefficient();
        coefficientOfEachCell();
        eachBound();
        boundOfEachConstraint();
        dropEach();
        dropAll();
        dropAndAdd();
        begunAnew();
        begunAnewThoughNothingIsDifferent();
        ruleStays();
        looksAtTheProblem();
        Check.end("ProblemEdgesTest");
    }

    // "Creates a desk with 2 variables"; "at first 0"
    private static void newVariables() {
        Check.begin("the variables of a new object");
        SimplexDesk desk = new SimplexDesk();
        Check.same("variables", desk.variables(), 2);
        Check.same("profitOf(0)", desk.profitOf(0), 0);
        Check.same("profitOf(1)", desk.profitOf(1), 0);
        Check.text("profitOf(2)", Twins.answer(desk, d -> d.profitOf(2)), Twins.INDEX.getName());
        Check.fraction("reduced(1)", desk.reducedNumerator(1), desk.reducedDenominator(1), "0/1");
        Check.text("reduced(2)", Twins.answer(desk, d -> d.reducedNumerator(2)), Twins.INDEX.getName());
        Check.same("setVariables", desk.setVariables(2), 2);
    }

    // ".. without constraints"
    private static void newConstraints() {
        Check.begin("the constraints of a new object");
        SimplexDesk desk = new SimplexDesk();
        Check.same("constraints", desk.constraints(), 0);
        Check.text("boundOf(0)", Twins.answer(desk, d -> d.boundOf(0)), Twins.INDEX.getName());
        Check.text("columnOf(0)", Twins.answer(desk, d -> d.columnOf(0)), Twins.INDEX.getName());
        Check.same("addConstraint", desk.addConstraint(1), 0);
    }

    // ".. with the rule 0, no pivots, no snapshot"
    private static void newRuleAndBasis() {
        Check.begin("the rule and the basis of a new object");
        SimplexDesk desk = new SimplexDesk();
        Check.same("rule", desk.rule(), 0);
        Check.same("pivots", desk.pivots(), 0);
        Check.same("allPivots", desk.allPivots(), 0);
        Check.same("idlePivots", desk.idlePivots(), 0);
        Check.same("isOptimal", desk.isOptimal(), true);
        Check.same("hasRay", desk.hasRay(), false);
        Check.same("isNamed(0)", desk.isNamed(0), false);
        Check.same("isNamed(1)", desk.isNamed(1), false);
        Check.fraction("value", desk.valueNumerator(), desk.valueDenominator(), "0/1");
        Check.same("pivotsLeft", desk.pivotsLeft(), 0);
        Check.same("savedStates", desk.savedStates(), 0);
        Check.text("undo", Twins.answer(desk, SimplexDesk::undo), Twins.STATE.getName());
        Check.text("restore", Twins.answer(desk, SimplexDesk::restore), Twins.STATE.getName());
    }

    // ".. an empty buffer"
    private static void newTexts() {
        Check.begin("the buffer of a new object");
        SimplexDesk desk = new SimplexDesk();
        Check.same("firstError", desk.firstError(), 0);
        Check.same("clearBuffer", desk.clearBuffer(), 0);
        Check.same("append", desk.append('v'), 1);
    }

    // setVariables: "many: 1 to 4"; "Returns the previous number."
    private static void eachNumberOfVariables() {
        Check.begin("setVariables from each to each");
        for (int before = 1; before <= 4; before++) {
            for (int many = 1; many <= 4; many++) {
                SimplexDesk desk = Twins.sized(before, 2);
                Check.same("setVariables", desk.setVariables(many), before);
                Check.same("variables", desk.variables(), many);
                Check.same("constraints", desk.constraints(), 2);
                Check.same("columnOf(0)", desk.columnOf(0), many);
                Check.same("columnOf(1)", desk.columnOf(1), many + 1);
                Check.same("boundOf(0)", desk.boundOf(0), 9);
                Check.same("boundOf(1)", desk.boundOf(1), 19);
                int last = many + 1;
                Check.same("isNamed", desk.isNamed(last), true);
                Check.text("isNamed", Twins.answer(desk, d -> d.isNamed(last + 1) ? 1 : 0), Twins.INDEX.getName());
            }
        }
    }

    // "new ones have the profit 0 and the coefficients 0"
    private static void newVariablesAreNothing() {
        Check.begin("new variables");
        for (int many = 2; many <= 4; many++) {
            SimplexDesk desk = Check.desk("v1;m7;c5<10;c-6<20;c7<30;c-8<40");
            desk.setVariables(many);
            Check.same("profitOf(0)", desk.profitOf(0), 7);
            for (int variable = 1; variable < many; variable++) {
                Check.same("profitOf", desk.profitOf(variable), 0);
                for (int constraint = 0; constraint < 4; constraint++) {
                    Check.same("coefficientOf", desk.coefficientOf(constraint, variable), 0);
                }
            }
            Check.same("coefficientOf(3, 0)", desk.coefficientOf(3, 0), -8);
            Check.same("boundOf(3)", desk.boundOf(3), 40);
        }
    }

    // "those that are gone are gone with both"
    private static void goneVariables() {
        Check.begin("variables that are gone");
        for (int many = 1; many < 4; many++) {
            SimplexDesk desk = Check.desk(Twins.FULL);
            Check.same("setVariables to less", desk.setVariables(many), 4);
            Check.same("setVariables to 4", desk.setVariables(4), many);
            int[] profits = {3, 1, 2, 4};
            int[] last = {-1, 2, 0, 5};
            for (int variable = 0; variable < 4; variable++) {
                boolean gone = variable >= many;
                Check.same("profitOf", desk.profitOf(variable), gone ? 0 : profits[variable]);
                Check.same("coefficientOf", desk.coefficientOf(0, variable), gone ? 0 : variable + 1);
                Check.same("coefficientOf", desk.coefficientOf(3, variable), gone ? 0 : last[variable]);
            }
            Check.same("boundOf(3)", desk.boundOf(3), 70);
        }
    }

    // A variable that is gone takes part in nothing: neither in a ray nor in a value.
    private static void goneVariablesCountNoMore() {
        Check.begin("variables that are gone count no more");
        SimplexDesk desk = Check.desk("v2;m2,1;c1,-1<4");
        Check.same("hasRay", desk.hasRay(), true);
        desk.setVariables(1);
        Check.same("hasRay", desk.hasRay(), false);
        Check.same("solve", desk.solve(), 1);
        Check.fraction("value", desk.valueNumerator(), desk.valueDenominator(), "8/1");
        Check.same("feasibleBases", desk.feasibleBases(), 2);
        Check.same("write", desk.write(), 10);
    }

    private static void sameNumberOfVariables() {
        Check.begin("setVariables to the same number");
        for (int many = 1; many <= 4; many++) {
            SimplexDesk desk = Check.desk(Twins.FULL);
            desk.setVariables(many);
            String before = Twins.state(desk);
            Check.same("setVariables", desk.setVariables(many), many);
            Check.text("the state", Twins.state(desk), before);
        }
    }

    // setProfit: "-9 to 9"; "Returns the previous profit."
    private static void eachProfit() {
        Check.begin("each profit");
        SimplexDesk desk = new SimplexDesk();
        int before = 0;
        for (int profit = -9; profit <= 9; profit++) {
            Check.same("setProfit", desk.setProfit(1, profit), before);
            Check.same("profitOf(1)", desk.profitOf(1), profit);
            Check.same("profitOf(0)", desk.profitOf(0), 0);
            before = profit;
        }
        Check.same("setProfit from 9 to -9", desk.setProfit(1, -9), 9);
        Check.same("profitOf(1)", desk.profitOf(1), -9);
    }

    private static void profitOfEachVariable() {
        Check.begin("the profit of each variable");
        for (int many = 1; many <= 4; many++) {
            SimplexDesk desk = Twins.sized(many, 0);
            for (int variable = 0; variable < many; variable++) {
                desk.setProfit(variable, 9 - variable);
            }
            for (int variable = 0; variable < many; variable++) {
                Check.same("profitOf", desk.profitOf(variable), 9 - variable);
            }
        }
    }

    // addConstraint: "bound: 0 to 99"
    private static void eachBoundAdded() {
        Check.begin("addConstraint with each bound");
        for (int bound = 0; bound <= 99; bound++) {
            SimplexDesk desk = new SimplexDesk();
            Check.same("addConstraint", desk.addConstraint(bound), 0);
            Check.same("boundOf(0)", desk.boundOf(0), bound);
            Check.fraction("given(2)", desk.givenNumerator(2), desk.givenDenominator(2), bound + "/1");
        }
    }

    // "at most 4 constraints, numbered from 0 in the order in which they came"; "Returns its number."
    private static void numbersOfConstraints() {
        Check.begin("the numbers of constraints");
        SimplexDesk desk = new SimplexDesk();
        for (int number = 0; number < 4; number++) {
            Check.same("addConstraint", desk.addConstraint(40 - number), number);
            Check.same("constraints", desk.constraints(), number + 1);
        }
        for (int number = 0; number < 4; number++) {
            Check.same("boundOf", desk.boundOf(number), 40 - number);
            Check.same("columnOf", desk.columnOf(number), 2 + number);
        }
    }

    // "Adds a constraint, with coefficients 0."
    private static void addedCoefficients() {
        Check.begin("coefficients of an added constraint");
        for (int many = 1; many <= 4; many++) {
            SimplexDesk desk = Twins.sized(many, 3);
            desk.addConstraint(7);
            for (int variable = 0; variable < many; variable++) {
                Check.same("coefficientOf", desk.coefficientOf(3, variable), 0);
            }
        }
    }

    // "Throws IllegalStateException if there are 4"; 3 are not 4.
    private static void fifthConstraint() {
        Check.begin("the fifth constraint");
        SimplexDesk desk = Twins.sized(1, 3);
        Check.same("addConstraint", desk.addConstraint(0), 3);
        Check.text("addConstraint", Twins.answer(desk, d -> d.addConstraint(0)), Twins.STATE.getName());
        Check.same("constraints", desk.constraints(), 4);
        Check.same("dropConstraint", desk.dropConstraint(0), 3);
        Check.same("addConstraint", desk.addConstraint(99), 3);
        Check.text("addConstraint", Twins.answer(desk, d -> d.addConstraint(99)), Twins.STATE.getName());
    }

    // setCoefficient: "-9 to 9"; "Returns the previous coefficient."
    private static void eachCoefficient() {
        Check.begin("each coefficient");
        SimplexDesk desk = Twins.sized(2, 2);
        int before = 0;
        for (int coefficient = -9; coefficient <= 9; coefficient++) {
            Check.same("setCoefficient", desk.setCoefficient(1, 0, coefficient), before);
            Check.same("coefficientOf(1, 0)", desk.coefficientOf(1, 0), coefficient);
            Check.same("coefficientOf(0, 1)", desk.coefficientOf(0, 1), 0);
            before = coefficient;
        }
        Check.same("setCoefficient from 9 to -9", desk.setCoefficient(1, 0, -9), 9);
        Check.fraction("entry(1, 0)", desk.entryNumerator(1, 0), desk.entryDenominator(1, 0), "-9/1");
    }

    private static void coefficientOfEachCell() {
        Check.begin("the coefficient of each cell");
        SimplexDesk desk = Twins.sized(4, 4);
        for (int cell = 0; cell < 16; cell++) {
            Check.same("setCoefficient", desk.setCoefficient(cell / 4, cell % 4, cell - 7), 0);
        }
        for (int cell = 0; cell < 16; cell++) {
            Check.same("coefficientOf", desk.coefficientOf(cell / 4, cell % 4), cell - 7);
        }
        for (int constraint = 0; constraint < 4; constraint++) {
            Check.same("boundOf", desk.boundOf(constraint), 10 * constraint + 9);
        }
    }

    // setBound: "0 to 99"; "Returns the previous bound."
    private static void eachBound() {
        Check.begin("each bound");
        SimplexDesk desk = Twins.sized(1, 1);
        int before = 9;
        for (int bound = 0; bound <= 99; bound++) {
            Check.same("setBound", desk.setBound(0, bound), before);
            Check.same("boundOf(0)", desk.boundOf(0), bound);
            before = bound;
        }
        Check.same("setBound from 99 to 0", desk.setBound(0, 0), 99);
        Check.same("boundOf(0)", desk.boundOf(0), 0);
    }

    private static void boundOfEachConstraint() {
        Check.begin("the bound of each constraint");
        for (int constraint = 0; constraint < 4; constraint++) {
            SimplexDesk desk = Twins.sized(4, 4);
            Check.same("setBound", desk.setBound(constraint, 98), 10 * constraint + 9);
            for (int other = 0; other < 4; other++) {
                Check.same("boundOf", desk.boundOf(other), other == constraint ? 98 : 10 * other + 9);
            }
        }
    }

    // "when one is dropped, those behind it have numbers that are less by 1"
    private static void dropEach() {
        Check.begin("dropConstraint of each");
        for (int constraint = 0; constraint < 4; constraint++) {
            SimplexDesk desk = Twins.sized(4, 4);
            for (int cell = 0; cell < 16; cell++) {
                desk.setCoefficient(cell / 4, cell % 4, cell - 7);
            }
            Check.same("dropConstraint", desk.dropConstraint(constraint), 3);
            Check.same("constraints", desk.constraints(), 3);
            for (int cell = 0; cell < 12; cell++) {
                int before = cell / 4 < constraint ? cell : cell + 4;
                Check.same("coefficientOf", desk.coefficientOf(cell / 4, cell % 4), before - 7);
                Check.same("boundOf", desk.boundOf(cell / 4), 10 * (before / 4) + 9);
            }
            Check.text("boundOf(3)", Twins.answer(desk, d -> d.boundOf(3)), Twins.INDEX.getName());
        }
    }

    // dropConstraint: "Returns how many are left."
    private static void dropAll() {
        Check.begin("dropConstraint to none");
        SimplexDesk desk = Twins.sized(2, 4);
        for (int left = 3; left >= 0; left--) {
            Check.same("dropConstraint", desk.dropConstraint(left), left);
            Check.same("constraints", desk.constraints(), left);
        }
        Check.text("dropConstraint", Twins.answer(desk, d -> d.dropConstraint(0)), Twins.INDEX.getName());
        Check.same("hasRay", desk.hasRay(), true);
        Check.same("feasibleBases", desk.feasibleBases(), 1);
    }

    private static void dropAndAdd() {
        Check.begin("addConstraint after dropConstraint");
        SimplexDesk desk = Check.desk(Twins.FULL);
        desk.dropConstraint(1);
        Check.same("addConstraint", desk.addConstraint(5), 3);
        for (int variable = 0; variable < 4; variable++) {
            Check.same("coefficientOf", desk.coefficientOf(3, variable), 0);
        }
        Check.same("boundOf(3)", desk.boundOf(3), 5);
        Check.same("boundOf(2)", desk.boundOf(2), 70);
    }

    // "It is begun anew whenever a problem is changed .. by setVariables, setProfit, addConstraint, setCoefficient,
    // setBound, dropConstraint and load; and by begin."
    private static void begunAnew() {
        Check.begin("begun anew");
        expectBegun("setVariables", 3, desk -> desk.setVariables(4));
        expectBegun("setVariables", 3, desk -> desk.setVariables(1));
        expectBegun("setProfit", 3, desk -> desk.setProfit(2, 9));
        expectBegun("addConstraint", 4, desk -> desk.addConstraint(50));
        expectBegun("setCoefficient", 3, desk -> desk.setCoefficient(0, 0, 9));
        expectBegun("setBound", 3, desk -> desk.setBound(0, 9));
        expectBegun("dropConstraint", 2, desk -> desk.dropConstraint(2));
        expectBegun("load", 2, SimplexDesk::load);
    }

    // "(also if nothing is different then)"
    private static void begunAnewThoughNothingIsDifferent() {
        Check.begin("begun anew though nothing is different");
        expectBegun("setVariables", 3, desk -> desk.setVariables(3));
        expectBegun("setProfit", 3, desk -> desk.setProfit(0, 5));
        expectBegun("setCoefficient", 3, desk -> desk.setCoefficient(2, 2, 2));
        expectBegun("setBound", 3, desk -> desk.setBound(2, 8));
        expectBegun("begin", 3, SimplexDesk::begin);
        expectBegun("load of the same", 3, desk -> {
            desk.write();
            return desk.load();
        });
    }

    private static void expectBegun(String what, int constraints, Twins.Use use) {
        SimplexDesk desk = Twins.prepared(0);
        desk.solve();
        int all = desk.allPivots();
        Check.same(what + ": pivots before it", desk.pivots() > 0, true);
        use.on(desk);
        Check.same(what + ": pivots", desk.pivots(), 0);
        Check.same(what + ": allPivots", desk.allPivots(), all);
        Check.same(what + ": constraints", desk.constraints(), constraints);
        Check.fraction(what + ": value", desk.valueNumerator(), desk.valueDenominator(), "0/1");
        for (int row = 0; row < constraints; row++) {
            Check.same(what + ": columnOf", desk.columnOf(row), desk.variables() + row);
            for (int column = 0; column < desk.variables() + constraints; column++) {
                long due = column < desk.variables() ? desk.coefficientOf(row, column) : column == desk.columnOf(row) ? 1 : 0;
                Check.fraction(what + ": entry", desk.entryNumerator(row, column), desk.entryDenominator(row, column),
                        due + "/1");
            }
        }
    }

    // The rule is a setting of the desk, and no part of the problem.
    private static void ruleStays() {
        Check.begin("the rule stays");
        for (int rule = 0; rule <= 2; rule++) {
            SimplexDesk desk = Check.desk(Twins.THREE, rule);
            desk.setVariables(2);
            desk.setProfit(0, 1);
            desk.addConstraint(1);
            desk.setCoefficient(0, 0, 1);
            desk.setBound(0, 1);
            desk.dropConstraint(0);
            desk.solve();
            desk.begin();
            desk.write();
            desk.load();
            Check.same("rule", desk.rule(), rule);
        }
    }

    // "looks at the problem; nothing is changed"
    private static void looksAtTheProblem() {
        Check.begin("looks at the problem");
        Twins.looks(Twins::full, "variables", 4, SimplexDesk::variables);
        Twins.looks(Twins::full, "constraints", 4, SimplexDesk::constraints);
        Twins.looks(Twins::full, "profitOf(3)", 6, desk -> desk.profitOf(3));
        Twins.looks(Twins::full, "coefficientOf(3, 3)", 5, desk -> desk.coefficientOf(3, 3));
        Twins.looks(Twins::full, "boundOf(3)", 70, desk -> desk.boundOf(3));
        Twins.looks(Twins::full, "rule", 1, SimplexDesk::rule);
        Twins.looks(Twins::full, "savedStates", 6, SimplexDesk::savedStates);
        Twins.looks(Twins::full, "firstError", 60, SimplexDesk::firstError);
    }
}
