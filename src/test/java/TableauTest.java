import java.util.ArrayList;
import java.util.Arrays;
import java.util.HashMap;
import java.util.HashSet;
import java.util.List;
import java.util.Map;
import java.util.Random;
import java.util.Set;
import java.util.stream.IntStream;

/**
 * What the document says of every basis, put together again in fractions from what the desk tells, for the bases that
 * pivots by hand reach from the first one: of problems written out here, and of problems of a seeded generator.
 */
public final class TableauTest {
    private static final String[] TEXTS = {"v2;m0,0", "v1;m1", "v4;m9,-9,9,1", "v1;m1;c0<0", "v1;m-1;c1<9", "v2;m3,2;c1,1<4;c1,3<6",
        "v3;m2,1,0;c4,2,-6<10;c0,0,1<3", "v2;m1,1;c1,2<4;c2,1<4", "v2;m2,1;c2,-3<4;c2,-1<8", "v2;m-1,2;c-3,3<7;c-3,2<3",
        "v4;m1,2,3,4;c9,8,7,6<99;c5,-4,3,2<98;c-1,2,3,5<97", "v4;m9,8,9,8;c9,9,9,9<99;c9,-9,9,-9<98;c9,9,-9,-9<97",
        "v3;m9,8,7;c1,1,1<0;c1,2,3<0;c3,2,1<0;c-1,1,1<0", Twins.THREE, Twins.OPEN, Twins.FULL};
    private static final int PROBLEMS = 1000;
    private static final int MOST_BASES = 30;

    private TableauTest() {
    }

    public static void main(String[] args) {
        for (String text : TEXTS) {
            walk(text, () -> Check.desk(text));
        }
        Random random = new Random(1947);
        for (int problem = 0; problem < PROBLEMS; problem++) {
            int[][] rows = randomRows(random, problem % 3 == 0 ? 3 : 100);
            walk(Arrays.deepToString(rows), () -> desk(rows));
        }
        walk("a cycle", () -> Twins.cycle(1));
        Check.end("TableauTest");
    }

    // The profits, and then for each constraint its coefficients and its bound.
    private static int[][] randomRows(Random random, int bounds) {
        int variables = 1 + random.nextInt(4);
        int[][] rows = new int[1 + random.nextInt(5)][variables + 1];
        for (int row = 0; row < rows.length; row++) {
            int least = row == 0 || random.nextInt(3) > 0 ? -2 : -9;
            for (int variable = 0; variable < variables; variable++) {
                rows[row][variable] = least + random.nextInt(10 - least);
            }
            rows[row][variables] = random.nextInt(bounds);
        }
        return rows;
    }

    private static SimplexDesk desk(int[][] rows) {
        int variables = rows[0].length - 1;
        SimplexDesk desk = new SimplexDesk();
        desk.setVariables(variables);
        for (int row = 0; row < rows.length; row++) {
            if (row > 0) {
                desk.addConstraint(rows[row][variables]);
            }
            for (int variable = 0; variable < variables; variable++) {
                if (row > 0) {
                    desk.setCoefficient(row - 1, variable, rows[row][variable]);
                } else {
                    desk.setProfit(variable, rows[row][variable]);
                }
            }
        }
        return desk;
    }

    // Each way is the pivots from the first basis on; each basis is looked at once.
    private static void walk(String problem, Twins.Maker maker) {
        List<int[][]> ways = new ArrayList<>();
        ways.add(new int[0][]);
        Set<String> seen = new HashSet<>();
        Map<Set<Integer>, String> values = new HashMap<>();
        for (int index = 0; index < ways.size() && index < MOST_BASES; index++) {
            int[][] way = ways.get(index);
            Twins.Maker basis = () -> after(maker, way);
            Check.begin(problem + " after " + Arrays.deepToString(way));
            Told told = new Told(basis.make());
            hold(told, basis);
            Set<Integer> columns = new HashSet<>();
            Arrays.stream(told.named).forEach(columns::add);
            String before = values.putIfAbsent(columns, told.value.toString());
            Check.text("the value of the same columns", told.value.toString(), before == null ? told.value.toString() : before);
            for (int cell = 0; cell < told.constraints * told.columns; cell++) {
                int row = cell / told.columns;
                int column = cell % told.columns;
                int[] named = told.named.clone();
                named[row] = column;
                if (told.reason(row, column) == 0 && seen.add(Arrays.toString(named))) {
                    int[][] longer = Arrays.copyOf(way, way.length + 1);
                    longer[way.length] = new int[] {row, column};
                    ways.add(longer);
                }
            }
        }
        Check.begin(problem);
        Check.same("the bases that pivots reach are among all", values.size() <= maker.make().feasibleBases(), true);
        for (int rule = 0; rule <= 2; rule++) {
            solve(maker, rule);
        }
    }

    // "To solve means to make pivots by the rule until the basis is optimal or has a ray, but at most 40."
    private static void solve(Twins.Maker maker, int rule) {
        int[][] way = new int[0][];
        Told told = new Told(maker.make());
        while (way.length < 40 && !told.isOptimal() && told.rayColumn() < 0) {
            int column = told.chosenColumn(rule);
            way = Arrays.copyOf(way, way.length + 1);
            way[way.length - 1] = new int[] {told.rowToPivot(column), column};
            told = new Told(after(maker, way));
        }
        SimplexDesk byHand = after(maker, way);
        byHand.setRule(rule);
        SimplexDesk desk = maker.make();
        desk.setRule(rule);
        Check.same("pivotsLeft by the rule " + rule, desk.pivotsLeft(), way.length);
        Check.same("solve by the rule " + rule, desk.solve(), way.length);
        Check.text("the state after solve by the rule " + rule, Twins.state(desk), Twins.state(byHand));
    }

    private static SimplexDesk after(Twins.Maker maker, int[][] way) {
        SimplexDesk desk = maker.make();
        for (int[] pivot : way) {
            desk.pivot(pivot[0], pivot[1]);
        }
        return desk;
    }

    private static void hold(Told told, Twins.Maker basis) {
        namesEachAtMostOnce(told, basis.make());
        namedColumns(told);
        firstEquations(told);
        solution(told);
        reducedCosts(told);
        optimalOrRay(told, basis.make());
        duals(told, basis.make());
        ray(told, basis.make());
        greatestValue(told, basis.make());
        allBases(told, basis.make());
        reasons(told, basis.make());
        rules(told, basis.make());
        bounds(told, basis.make());
        pivots(told, basis);
    }

    // "A basis names for each row a column, each at most once"
    private static void namesEachAtMostOnce(Told told, SimplexDesk desk) {
        for (int column = 0; column < told.columns; column++) {
            int times = 0;
            for (int name : told.named) {
                times += name == column ? 1 : 0;
            }
            Check.same("the rows that name the column " + column + " are at most one", times <= 1, true);
            Check.same("isNamed(" + column + ")", desk.isNamed(column), times == 1);
        }
    }

    // "the column of each row has the factor 1 in this row, and 0 in all others"
    private static void namedColumns(Told told) {
        for (int row = 0; row < told.constraints; row++) {
            for (int other = 0; other < told.constraints; other++) {
                Check.text("the entry of a named column", told.entries[other][told.named[row]].toString(),
                        other == row ? "1/1" : "0/1");
            }
        }
    }

    // "the m equations can be rewritten (by adding multiples of equations to others, and by multiplying ..)": the first
    // ones come out again, when each row is taken as often as its column stands in them.
    private static void firstEquations(Told told) {
        for (int first = 0; first < told.constraints; first++) {
            for (int column = 0; column < told.columns; column++) {
                Fraction sum = Fraction.NULL;
                for (int row = 0; row < told.constraints; row++) {
                    sum = sum.plus(told.entries[row][column].times(told.firstFactor(first, told.named[row])));
                }
                Check.text("the factor of the column " + column, sum.toString(), told.firstFactor(first, column) + "/1");
            }
            Fraction sum = Fraction.NULL;
            for (int row = 0; row < told.constraints; row++) {
                sum = sum.plus(told.side(row).times(told.firstFactor(first, told.named[row])));
            }
            Check.text("the bound", sum.toString(), told.bound(first) + "/1");
        }
    }

    // "A solution gives each variable a number that is not below 0, so that for each constraint the sum .. is at most its
    // bound. What is left to the bound is the slack"; "The value of a solution is the sum of the profits times the variables."
    private static void solution(Told told) {
        Fraction value = Fraction.NULL;
        for (int column = 0; column < told.columns; column++) {
            Check.same("what is given is not below 0", told.given[column].sign() >= 0, true);
            Check.same("what a column is given that no row names", told.rowNaming(column) < 0
                    && told.given[column].sign() != 0, false);
            value = value.plus(told.given[column].times(told.profit(column)));
        }
        Check.text("the value", told.value.toString(), value.toString());
        for (int constraint = 0; constraint < told.constraints; constraint++) {
            Fraction left = Fraction.of(told.bound(constraint));
            for (int variable = 0; variable < told.variables; variable++) {
                left = left.less(told.given[variable].times(told.firstFactor(constraint, variable)));
            }
            Check.text("the slack", told.given[told.variables + constraint].toString(), left.toString());
        }
    }

    // "its profit less the sum, over the rows, of the profit of the column of the row times the entry"
    private static void reducedCosts(Told told) {
        for (int column = 0; column < told.columns; column++) {
            Fraction due = Fraction.of(told.profit(column));
            for (int row = 0; row < told.constraints; row++) {
                due = due.less(told.entries[row][column].times(told.profit(told.named[row])));
            }
            Check.text("the reduced cost of " + column, told.reduced[column].toString(), due.toString());
        }
    }

    // "A basis is optimal, if no reduced cost is above 0. It has a ray, if some column has a reduced cost above 0, and no
    // entry above 0 in any row"
    private static void optimalOrRay(Told told, SimplexDesk desk) {
        Check.same("isOptimal", desk.isOptimal(), told.isOptimal());
        Check.same("hasRay", desk.hasRay(), told.rayColumn() >= 0);
    }

    // "for the column of each row the sum, over the constraints i, of the dual of i times the factor of the column in the
    // first equation of the row i, is the profit of the column"; "all duals times the bounds of their constraints"
    private static void duals(Told told, SimplexDesk desk) {
        Fraction[] duals = new Fraction[told.constraints];
        Fraction sum = Fraction.NULL;
        for (int constraint = 0; constraint < told.constraints; constraint++) {
            duals[constraint] = Fraction.told("dual", desk.dualNumerator(constraint), desk.dualDenominator(constraint));
            Check.fraction("the dual by equations", desk.dualNumeratorByEquations(constraint),
                    desk.dualDenominatorByEquations(constraint), duals[constraint].toString());
            Check.text("the reduced cost of the slack", told.reduced[told.variables + constraint].times(-1).toString(),
                    duals[constraint].toString());
            sum = sum.plus(duals[constraint].times(told.bound(constraint)));
        }
        Check.fraction("dualValue", desk.dualValueNumerator(), desk.dualValueDenominator(), sum.toString());
        for (int column : told.named) {
            Fraction profit = Fraction.NULL;
            for (int constraint = 0; constraint < told.constraints; constraint++) {
                profit = profit.plus(duals[constraint].times(told.firstFactor(constraint, column)));
            }
            Check.text("the profit of " + column, profit.toString(), told.profit(column) + "/1");
        }
    }

    // "what a column gets more along the ray, when its column gets 1 more, and the equations hold"; "(then there is no
    // greatest value)": nothing falls along it, and the value grows.
    private static void ray(Told told, SimplexDesk desk) {
        int open = told.rayColumn();
        if (open < 0) {
            Check.text("rayColumn", Twins.answer(desk, SimplexDesk::rayColumn), Twins.STATE.getName());
            return;
        }
        Check.same("rayColumn", desk.rayColumn(), open);
        Fraction[] more = new Fraction[told.columns];
        Fraction growth = Fraction.NULL;
        for (int column = 0; column < told.columns; column++) {
            more[column] = Fraction.told("ray", desk.rayNumerator(column), desk.rayDenominator(column));
            Check.same("along the ray nothing falls", more[column].sign() >= 0, true);
            boolean moves = column == open || told.rowNaming(column) >= 0;
            Check.same("all others get 0", moves || more[column].sign() == 0, true);
            growth = growth.plus(more[column].times(told.profit(column)));
        }
        Check.text("the column of the ray", more[open].toString(), "1/1");
        Check.text("what the value grows by", growth.toString(), told.reduced[open].toString());
        for (int constraint = 0; constraint < told.constraints; constraint++) {
            Fraction sum = Fraction.NULL;
            for (int column = 0; column < told.columns; column++) {
                sum = sum.plus(more[column].times(told.firstFactor(constraint, column)));
            }
            Check.text("what is added to an equation", sum.toString(), "0/1");
        }
    }

    // "A greatest value is wanted"; "the value told by pivots and by all feasible bases"
    private static void greatestValue(Told told, SimplexDesk desk) {
        Fraction best = Fraction.told("best", desk.bestNumerator(), desk.bestDenominator());
        Check.same("the value of a basis is above the best", told.value.isAbove(best), false);
        if (told.isOptimal()) {
            Check.text("the value of the optimal basis", told.value.toString(), best.toString());
        }
    }

    // "the number of feasible bases, bases with the same columns counted once, in whatever rows"; "the number of unlike
    // values of feasible bases"; "the greatest value of all feasible bases"
    private static void allBases(Told told, SimplexDesk desk) {
        int feasible = 0;
        Map<String, Fraction> values = new HashMap<>();
        for (int set = 0; set < 1 << told.columns; set++) {
            Fraction value = Integer.bitCount(set) == told.constraints ? valueOfColumns(told, set) : null;
            if (value != null) {
                feasible++;
                values.put(value.toString(), value);
            }
        }
        Fraction best = Fraction.told("best", desk.bestNumerator(), desk.bestDenominator());
        Check.same("feasibleBases", desk.feasibleBases(), feasible);
        Check.same("unlikeValues", desk.unlikeValues(), values.size());
        Check.same("the best is a value of a basis", values.containsKey(best.toString()), true);
        for (Fraction value : values.values()) {
            Check.same("a value is above the best", value.isAbove(best), false);
        }
    }

    // By determinants: each column is given that with the bounds in its place, over that of the columns. Null if the
    // columns are no basis, or not a feasible one.
    private static Fraction valueOfColumns(Told told, int set) {
        int size = told.constraints;
        long[][] factors = new long[size][];
        int[] columns = IntStream.range(0, told.columns).filter(column -> (set >> column & 1) == 1).toArray();
        long[] bounds = IntStream.range(0, size).mapToLong(told::bound).toArray();
        for (int index = 0; index < size; index++) {
            int column = columns[index];
            factors[index] = IntStream.range(0, size).mapToLong(row -> told.firstFactor(row, column)).toArray();
        }
        long whole = determinant(factors, 0, 0);
        if (whole == 0) {
            return null;
        }
        Fraction value = Fraction.NULL;
        for (int index = 0; index < size; index++) {
            long[][] replaced = factors.clone();
            replaced[index] = bounds;
            Fraction given = Fraction.of(determinant(replaced, 0, 0)).over(Fraction.of(whole));
            if (given.sign() < 0) {
                return null;
            }
            value = value.plus(given.times(told.profit(columns[index])));
        }
        return value;
    }

    // The columns from one on, without the rows of a set, developed by the first of them.
    private static long determinant(long[][] columns, int from, int without) {
        long sum = from == columns.length ? 1 : 0;
        long sign = 1;
        for (int row = 0; from < columns.length && row < columns.length; row++) {
            if ((without >> row & 1) == 0) {
                sum += sign * columns[from][row] * determinant(columns, from + 1, without | 1 << row);
                sign = -sign;
            }
        }
        return sum;
    }

    // "unless one of these reasons holds, of which the first one is told"
    private static void reasons(Told told, SimplexDesk desk) {
        for (int row = 0; row < told.constraints; row++) {
            for (int column = 0; column < told.columns; column++) {
                Check.same("whyNoPivot(" + row + ", " + column + ")", desk.whyNoPivot(row, column), told.reason(row, column));
            }
        }
    }

    // "The rule (a setting) chooses the column, if the basis is neither optimal nor has a ray"; "The row is that with the
    // least ratio with this column, of several the one that names the lowest column."
    private static void rules(Told told, SimplexDesk desk) {
        for (int rule = 0; rule <= 2; rule++) {
            desk.setRule(rule);
            if (told.isOptimal() || told.rayColumn() >= 0) {
                Check.text("nextColumn", Twins.answer(desk, SimplexDesk::nextColumn), Twins.STATE.getName());
                Check.text("nextRow", Twins.answer(desk, SimplexDesk::nextRow), Twins.STATE.getName());
                Check.same("pivotsLeft", desk.pivotsLeft(), 0);
            } else {
                int column = told.chosenColumn(rule);
                Check.same("nextColumn by the rule " + rule, desk.nextColumn(), column);
                Check.same("nextRow by the rule " + rule, desk.nextRow(), told.rowToPivot(column));
                int left = desk.pivotsLeft();
                desk.step();
                Check.same("pivotsLeft after a step by the rule " + rule, left == 40 || desk.pivotsLeft() == left - 1, true);
                desk.undo();
            }
        }
    }

    // "the least bound, from 0 on .. with which the basis stays feasible"; "the greatest bound, up to 99"
    private static void bounds(Told told, SimplexDesk desk) {
        for (int constraint = 0; constraint < told.constraints; constraint++) {
            int now = told.bound(constraint);
            int least = now;
            while (least > 0 && staysFeasible(told, constraint, least - 1 - now)) {
                least--;
            }
            int greatest = now;
            while (greatest < 99 && staysFeasible(told, constraint, greatest + 1 - now)) {
                greatest++;
            }
            Check.same("leastBound(" + constraint + ")", desk.leastBound(constraint), least);
            Check.same("greatestBound(" + constraint + ")", desk.greatestBound(constraint), greatest);
        }
    }

    // The right sides are linear in the bound, by the entries of the slack, which stood in this equation alone at first.
    private static boolean staysFeasible(Told told, int constraint, int more) {
        for (int row = 0; row < told.constraints; row++) {
            if (told.side(row).plus(told.entries[row][told.variables + constraint].times(more)).sign() < 0) {
                return false;
            }
        }
        return true;
    }

    // "A pivot in a row and a column lets the row name this column; all else of the basis stays."; "(So the value does
    // not fall by a pivot. A pivot that leaves it as it was is called idle.)"
    private static void pivots(Told told, Twins.Maker basis) {
        for (int cell = 0; cell < told.constraints * told.columns; cell++) {
            int row = cell / told.columns;
            int column = cell % told.columns;
            if (told.reason(row, column) != 0) {
                continue;
            }
            SimplexDesk desk = basis.make();
            int idle = desk.idlePivots();
            int all = desk.allPivots();
            Check.same("pivot(" + row + ", " + column + ")", desk.pivot(row, column), told.named[row]);
            Told next = new Told(desk);
            for (int other = 0; other < told.constraints; other++) {
                Check.same("columnOf(" + other + ")", next.named[other], other == row ? column : told.named[other]);
            }
            Fraction more = told.reduced[column].times(told.ratio(row, column));
            Check.text("the value after it", next.value.toString(), told.value.plus(more).toString());
            Check.same("idlePivots", desk.idlePivots(), more.sign() == 0 ? idle + 1 : idle);
            Check.same("allPivots", desk.allPivots(), all + 1);
            Check.same("pivots", desk.pivots(), all + 1);
        }
    }
}
