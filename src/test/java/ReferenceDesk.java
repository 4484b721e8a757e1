import java.util.ArrayDeque;
import java.util.ArrayList;
import java.util.Arrays;
import java.util.Deque;
import java.util.HashSet;
import java.util.List;
import java.util.Set;
import java.util.regex.Matcher;
import java.util.regex.Pattern;

/**
 * The document once more, in other words: no tableau is kept, but every answer is told from the first equations and
 * the basis by solving with fractions; bounds are found by trying all of them; texts are judged by a pattern.
 */
public final class ReferenceDesk {
    /** A fraction in lowest terms; an overflow throws, so that no test goes on with a wrong number. */
    private static final class Q implements Comparable<Q> {
        static final Q ZERO = new Q(0, 1);
        static final Q ONE = new Q(1, 1);
        final long top;
        final long bottom;

        Q(long top, long bottom) {
            long a = Math.abs(top);
            long b = Math.abs(bottom);
            while (b != 0) {
                long rest = a % b;
                a = b;
                b = rest;
            }
            long sign = bottom < 0 ? -1 : 1;
            this.top = sign * top / a;
            this.bottom = sign * bottom / a;
        }

        static Q of(long number) {
            return new Q(number, 1);
        }

        Q plus(Q other) {
            return new Q(Math.addExact(Math.multiplyExact(top, other.bottom), Math.multiplyExact(other.top, bottom)),
                    Math.multiplyExact(bottom, other.bottom));
        }

        Q times(Q other) {
            return new Q(Math.multiplyExact(top, other.top), Math.multiplyExact(bottom, other.bottom));
        }

        Q minus(Q other) {
            return plus(other.times(of(-1)));
        }

        Q by(Q other) {
            return times(new Q(other.bottom, other.top));
        }

        int sign() {
            return Long.signum(top);
        }

        @Override
        public int compareTo(Q other) {
            return minus(other).sign();
        }
    }

    private static final class State {
        List<Integer> profits = new ArrayList<>(List.of(0, 0));
        List<List<Integer>> factors = new ArrayList<>();
        List<Integer> bounds = new ArrayList<>();
        List<Integer> basis = new ArrayList<>();
        int rule;
        int pivots;
        int allPivots;
        int idlePivots;

        State copy() {
            State other = new State();
            other.profits = new ArrayList<>(profits);
            factors.forEach(row -> other.factors.add(new ArrayList<>(row)));
            other.bounds = new ArrayList<>(bounds);
            other.basis = new ArrayList<>(basis);
            other.rule = rule;
            other.pivots = pivots;
            other.allPivots = allPivots;
            other.idlePivots = idlePivots;
            return other;
        }

        int n() {
            return profits.size();
        }

        int m() {
            return bounds.size();
        }

        void begin() {
            basis.clear();
            for (int i = 0; i < m(); i++) {
                basis.add(n() + i);
            }
            pivots = 0;
        }

        Q first(int i, int j) {
            return Q.of(j < n() ? factors.get(i).get(j) : j - n() == i ? 1 : 0);
        }

        Q profit(int j) {
            return Q.of(j < n() ? profits.get(j) : 0);
        }

        // The rows of the tableau with the right side at the end; null if the columns are no basis.
        Q[][] tableau(List<Integer> columns) {
            int width = n() + m();
            Q[][] rows = new Q[m()][width + 1];
            for (int i = 0; i < m(); i++) {
                for (int j = 0; j < width; j++) {
                    rows[i][j] = first(i, j);
                }
                rows[i][width] = Q.of(bounds.get(i));
            }
            return reduce(rows, columns) ? rows : null;
        }

        Q value(Q[][] rows, List<Integer> columns) {
            Q sum = Q.ZERO;
            for (int i = 0; i < m(); i++) {
                sum = sum.plus(profit(columns.get(i)).times(rows[i][n() + m()]));
            }
            return sum;
        }

        Q reduced(Q[][] rows, int j) {
            Q sum = profit(j);
            for (int i = 0; i < m(); i++) {
                sum = sum.minus(profit(basis.get(i)).times(rows[i][j]));
            }
            return sum;
        }

        boolean isFeasible(Q[][] rows) {
            return Arrays.stream(rows).allMatch(row -> row[n() + m()].sign() >= 0);
        }

        Q ratio(Q[][] rows, int i, int j) {
            return rows[i][j].sign() > 0 ? rows[i][n() + m()].by(rows[i][j]) : null;
        }

        int rayColumn(Q[][] rows) {
            for (int j = 0; j < n() + m(); j++) {
                if (reduced(rows, j).sign() > 0 && leastRow(rows, j) < 0) {
                    return j;
                }
            }
            return -1;
        }

        boolean isOptimal(Q[][] rows) {
            for (int j = 0; j < n() + m(); j++) {
                if (reduced(rows, j).sign() > 0) {
                    return false;
                }
            }
            return true;
        }

        int leastRow(Q[][] rows, int j) {
            int least = -1;
            for (int i = 0; i < m(); i++) {
                Q ratio = ratio(rows, i, j);
                if (ratio == null) {
                    continue;
                }
                int order = least < 0 ? -1 : ratio.compareTo(ratio(rows, least, j));
                if (order < 0 || order == 0 && basis.get(i) < basis.get(least)) {
                    least = i;
                }
            }
            return least;
        }

        int nextColumn(Q[][] rows) {
            int chosen = -1;
            Q mark = null;
            for (int j = 0; j < n() + m(); j++) {
                Q cost = reduced(rows, j);
                if (cost.sign() <= 0) {
                    continue;
                }
                Q now = rule == 0 ? Q.ZERO : rule == 1 ? cost : cost.times(ratio(rows, leastRow(rows, j), j));
                if (mark == null || now.compareTo(mark) > 0) {
                    chosen = j;
                    mark = now;
                }
            }
            return chosen;
        }

        void pivot(int row, int column) {
            Q before = value(tableau(basis), basis);
            basis.set(row, column);
            pivots++;
            allPivots++;
            if (value(tableau(basis), basis).compareTo(before) == 0) {
                idlePivots++;
            }
        }

        int solve() {
            for (int made = 0; made < 40; made++) {
                Q[][] rows = tableau(basis);
                if (isOptimal(rows) || rayColumn(rows) >= 0) {
                    return made;
                }
                int column = nextColumn(rows);
                pivot(leastRow(rows, column), column);
            }
            return 40;
        }
    }

    // Brings each row to 1 in its column, and all others to 0 there; false if that is not possible.
    private static boolean reduce(Q[][] rows, List<Integer> columns) {
        for (int k = 0; k < rows.length; k++) {
            int j = columns.get(k);
            int found = k;
            while (found < rows.length && rows[found][j].sign() == 0) {
                found++;
            }
            if (found == rows.length) {
                return false;
            }
            Q[] row = rows[found];
            rows[found] = rows[k];
            Q factor = row[j];
            rows[k] = Arrays.stream(row).map(q -> q.by(factor)).toArray(Q[]::new);
            for (int i = 0; i < rows.length; i++) {
                Q share = rows[i][j];
                for (int c = 0; i != k && c < row.length; c++) {
                    rows[i][c] = rows[i][c].minus(share.times(rows[k][c]));
                }
            }
        }
        return true;
    }

    private State now = new State();
    private State snapshot;
    private final Deque<State> saved = new ArrayDeque<>();
    private String buffer = "";

    private void save() {
        saved.addLast(now.copy());
        if (saved.size() > 6) {
            saved.removeFirst();
        }
    }

    private Q[][] rows() {
        return now.tableau(now.basis);
    }

    private static void index(boolean good) {
        if (!good) {
            throw new IndexOutOfBoundsException();
        }
    }

    private static void argument(boolean good) {
        if (!good) {
            throw new IllegalArgumentException();
        }
    }

    private static void state(boolean good) {
        if (!good) {
            throw new IllegalStateException();
        }
    }

    private static boolean within(int low, int number, int high) {
        return low <= number && number <= high;
    }

    private void variable(int j) {
        index(within(0, j, now.n() - 1));
    }

    private void constraint(int i) {
        index(within(0, i, now.m() - 1));
    }

    private void column(int j) {
        index(within(0, j, now.n() + now.m() - 1));
    }

    public int setVariables(int many) {
        argument(within(1, many, 4));
        save();
        int before = now.n();
        List<List<Integer>> lists = new ArrayList<>(now.factors);
        lists.add(now.profits);
        for (List<Integer> list : lists) {
            while (list.size() > many) {
                list.remove(list.size() - 1);
            }
            while (list.size() < many) {
                list.add(0);
            }
        }
        now.begin();
        return before;
    }

    public int setProfit(int variable, int profit) {
        variable(variable);
        argument(within(-9, profit, 9));
        save();
        int before = now.profits.set(variable, profit);
        now.begin();
        return before;
    }

    public int addConstraint(int bound) {
        argument(within(0, bound, 99));
        state(now.m() < 4);
        save();
        now.bounds.add(bound);
        List<Integer> row = new ArrayList<>();
        now.profits.forEach(profit -> row.add(0));
        now.factors.add(row);
        now.begin();
        return now.m() - 1;
    }

    public int setCoefficient(int constraint, int variable, int coefficient) {
        constraint(constraint);
        variable(variable);
        argument(within(-9, coefficient, 9));
        save();
        int before = now.factors.get(constraint).set(variable, coefficient);
        now.begin();
        return before;
    }

    public int setBound(int constraint, int bound) {
        constraint(constraint);
        argument(within(0, bound, 99));
        save();
        int before = now.bounds.set(constraint, bound);
        now.begin();
        return before;
    }

    public int dropConstraint(int constraint) {
        constraint(constraint);
        save();
        now.bounds.remove(constraint);
        now.factors.remove(constraint);
        now.begin();
        return now.m();
    }

    public int begin() {
        save();
        int before = now.pivots;
        now.begin();
        return before;
    }

    public int pivot(int row, int column) {
        state(whyNoPivot(row, column) == 0);
        save();
        int before = now.basis.get(row);
        now.pivot(row, column);
        return before;
    }

    public int step() {
        int column = nextColumn();
        int row = nextRow();
        save();
        now.pivot(row, column);
        return column;
    }

    public int solve() {
        save();
        return now.solve();
    }

    public int setRule(int rule) {
        argument(within(0, rule, 2));
        save();
        int before = now.rule;
        now.rule = rule;
        return before;
    }

    public int append(int code) {
        argument(within(33, code, 126));
        state(buffer.length() < 60);
        buffer += (char) code;
        return buffer.length();
    }

    public int clearBuffer() {
        int before = buffer.length();
        buffer = "";
        return before;
    }

    private static final Pattern PROBLEM = Pattern.compile(pattern());

    private static String pattern() {
        String factor = "(?:[0-9]|-[1-9])";
        List<String> kinds = new ArrayList<>();
        for (int n = 1; n <= 4; n++) {
            String row = factor + ("," + factor).repeat(n - 1);
            kinds.add("v" + n + ";m" + row + "(?:;c" + row + "<(?:[1-9][0-9]?|0)){0,4}");
        }
        return String.join("|", kinds);
    }

    public int firstError() {
        for (int length = 1; length <= buffer.length(); length++) {
            Matcher matcher = PROBLEM.matcher(buffer.substring(0, length));
            if (!matcher.matches() && !matcher.hitEnd()) {
                return length - 1;
            }
        }
        return buffer.length();
    }

    public int load() {
        argument(PROBLEM.matcher(buffer).matches());
        save();
        String[] parts = buffer.split(";");
        now.profits = numbers(parts[1].substring(1));
        now.factors.clear();
        now.bounds.clear();
        for (int i = 2; i < parts.length; i++) {
            String[] sides = parts[i].substring(1).split("<");
            now.factors.add(numbers(sides[0]));
            now.bounds.add(Integer.parseInt(sides[1]));
        }
        buffer = "";
        now.begin();
        return now.m();
    }

    private static List<Integer> numbers(String text) {
        List<Integer> list = new ArrayList<>();
        for (String part : text.split(",")) {
            list.add(Integer.parseInt(part));
        }
        return list;
    }

    public int write() {
        String text = "v" + now.n() + ";m" + list(now.profits);
        for (int i = 0; i < now.m(); i++) {
            text += ";c" + list(now.factors.get(i)) + "<" + now.bounds.get(i);
        }
        state(text.length() <= 60);
        buffer = text;
        return buffer.length();
    }

    private static String list(List<Integer> numbers) {
        return numbers.toString().replaceAll("[\\[\\] ]", "");
    }

    public int undo() {
        state(!saved.isEmpty());
        now = saved.removeLast();
        return saved.size();
    }

    public int keep() {
        snapshot = now.copy();
        return now.allPivots;
    }

    public int restore() {
        state(snapshot != null);
        save();
        now = snapshot.copy();
        return now.allPivots;
    }

    public int savedStates() {
        return saved.size();
    }

    public int variables() {
        return now.n();
    }

    public int constraints() {
        return now.m();
    }

    public int profitOf(int variable) {
        variable(variable);
        return now.profits.get(variable);
    }

    public int coefficientOf(int constraint, int variable) {
        constraint(constraint);
        variable(variable);
        return now.factors.get(constraint).get(variable);
    }

    public int boundOf(int constraint) {
        constraint(constraint);
        return now.bounds.get(constraint);
    }

    public int rule() {
        return now.rule;
    }

    public int columnOf(int row) {
        constraint(row);
        return now.basis.get(row);
    }

    public boolean isNamed(int column) {
        column(column);
        return now.basis.contains(column);
    }

    public boolean isOptimal() {
        return now.isOptimal(rows());
    }

    public boolean hasRay() {
        return now.rayColumn(rows()) >= 0;
    }

    public int pivots() {
        return now.pivots;
    }

    public int allPivots() {
        return now.allPivots;
    }

    public int idlePivots() {
        return now.idlePivots;
    }

    private Q entry(int row, int column) {
        constraint(row);
        column(column);
        return rows()[row][column];
    }

    public long entryNumerator(int row, int column) {
        return entry(row, column).top;
    }

    public long entryDenominator(int row, int column) {
        return entry(row, column).bottom;
    }

    private Q reduced(int column) {
        column(column);
        return now.reduced(rows(), column);
    }

    public long reducedNumerator(int column) {
        return reduced(column).top;
    }

    public long reducedDenominator(int column) {
        return reduced(column).bottom;
    }

    private Q worth() {
        return now.value(rows(), now.basis);
    }

    public long valueNumerator() {
        return worth().top;
    }

    public long valueDenominator() {
        return worth().bottom;
    }

    private Q given(int column) {
        column(column);
        int row = now.basis.indexOf(column);
        return row < 0 ? Q.ZERO : rows()[row][now.n() + now.m()];
    }

    public long givenNumerator(int column) {
        return given(column).top;
    }

    public long givenDenominator(int column) {
        return given(column).bottom;
    }

    public double value() {
        return (double) worth().top / worth().bottom;
    }

    private Q[] duals() {
        int m = now.m();
        Q[][] equations = new Q[m][m + 1];
        List<Integer> unknowns = new ArrayList<>();
        for (int r = 0; r < m; r++) {
            for (int i = 0; i < m; i++) {
                equations[r][i] = now.first(i, now.basis.get(r));
            }
            equations[r][m] = now.profit(now.basis.get(r));
            unknowns.add(r);
        }
        reduce(equations, unknowns);
        return Arrays.stream(equations).map(row -> row[m]).toArray(Q[]::new);
    }

    private Q dual(int constraint) {
        constraint(constraint);
        return duals()[constraint];
    }

    public long dualNumerator(int constraint) {
        return dual(constraint).top;
    }

    public long dualDenominator(int constraint) {
        return dual(constraint).bottom;
    }

    public long dualNumeratorByEquations(int constraint) {
        return dual(constraint).top;
    }

    public long dualDenominatorByEquations(int constraint) {
        return dual(constraint).bottom;
    }

    private Q dualWorth() {
        Q sum = Q.ZERO;
        Q[] duals = duals();
        for (int i = 0; i < now.m(); i++) {
            sum = sum.plus(duals[i].times(Q.of(now.bounds.get(i))));
        }
        return sum;
    }

    public long dualValueNumerator() {
        return dualWorth().top;
    }

    public long dualValueDenominator() {
        return dualWorth().bottom;
    }

    public int rayColumn() {
        int column = now.rayColumn(rows());
        state(column >= 0);
        return column;
    }

    private Q growth(int column) {
        column(column);
        int ray = rayColumn();
        int row = now.basis.indexOf(column);
        return column == ray ? Q.ONE : row < 0 ? Q.ZERO : Q.ZERO.minus(rows()[row][ray]);
    }

    public long rayNumerator(int column) {
        return growth(column).top;
    }

    public long rayDenominator(int column) {
        return growth(column).bottom;
    }

    private List<Q> allValues() {
        List<Q> values = new ArrayList<>();
        collect(0, new ArrayList<>(), values);
        return values;
    }

    private void collect(int from, List<Integer> columns, List<Q> values) {
        if (columns.size() == now.m()) {
            Q[][] rows = now.tableau(columns);
            if (rows != null && now.isFeasible(rows)) {
                values.add(now.value(rows, columns));
            }
            return;
        }
        for (int j = from; j < now.n() + now.m(); j++) {
            columns.add(j);
            collect(j + 1, columns, values);
            columns.remove(columns.size() - 1);
        }
    }

    public int feasibleBases() {
        return allValues().size();
    }

    public int unlikeValues() {
        Set<String> texts = new HashSet<>();
        allValues().forEach(value -> texts.add(value.top + "/" + value.bottom));
        return texts.size();
    }

    private Q best() {
        return allValues().stream().max(Q::compareTo).get();
    }

    public long bestNumerator() {
        return best().top;
    }

    public long bestDenominator() {
        return best().bottom;
    }

    public int whyNoPivot(int row, int column) {
        constraint(row);
        column(column);
        Q[][] rows = rows();
        if (now.basis.contains(column)) {
            return 1;
        }
        if (now.reduced(rows, column).sign() <= 0) {
            return 2;
        }
        Q own = now.ratio(rows, row, column);
        if (own == null) {
            return 3;
        }
        for (int i = 0; i < now.m(); i++) {
            Q ratio = now.ratio(rows, i, column);
            if (ratio != null && ratio.compareTo(own) < 0) {
                return 4;
            }
        }
        return 0;
    }

    public int nextColumn() {
        state(!isOptimal() && !hasRay());
        return now.nextColumn(rows());
    }

    public int nextRow() {
        return now.leastRow(rows(), nextColumn());
    }

    public int pivotsLeft() {
        return now.copy().solve();
    }

    private boolean staysFeasible(int constraint, int bound) {
        State other = now.copy();
        other.bounds.set(constraint, bound);
        return other.isFeasible(other.tableau(other.basis));
    }

    public int leastBound(int constraint) {
        constraint(constraint);
        int bound = 0;
        while (!staysFeasible(constraint, bound)) {
            bound++;
        }
        return bound;
    }

    public int greatestBound(int constraint) {
        constraint(constraint);
        int bound = 99;
        while (!staysFeasible(constraint, bound)) {
            bound--;
        }
        return bound;
    }

    private Q solved(int constraint, int bound) {
        constraint(constraint);
        argument(within(0, bound, 99));
        State other = now.copy();
        other.bounds.set(constraint, bound);
        other.begin();
        other.solve();
        Q[][] rows = other.tableau(other.basis);
        state(other.isOptimal(rows));
        return other.value(rows, other.basis);
    }

    public long solvedNumerator(int constraint, int bound) {
        return solved(constraint, bound).top;
    }

    public long solvedDenominator(int constraint, int bound) {
        return solved(constraint, bound).bottom;
    }

    public long digest() {
        List<Long> list = new ArrayList<>();
        add(list, variables(), constraints(), rule(), isOptimal() ? 1 : 0, hasRay() ? 1 : 0);
        add(list, pivots(), allPivots(), idlePivots());
        add(list, worth(), dualWorth());
        add(list, feasibleBases(), unlikeValues());
        add(list, best());
        add(list, pivotsLeft(), savedStates());
        for (int j = 0; j < now.n(); j++) {
            add(list, profitOf(j));
        }
        for (int i = 0; i < now.m(); i++) {
            for (int j = 0; j < now.n(); j++) {
                add(list, coefficientOf(i, j));
            }
            add(list, boundOf(i));
            add(list, dual(i), dual(i));
            add(list, leastBound(i), greatestBound(i));
        }
        for (int j = 0; j < now.n() + now.m(); j++) {
            add(list, isNamed(j) ? 1 : 0);
            add(list, reduced(j), given(j));
        }
        Q[][] rows = rows();
        for (int i = 0; i < now.m(); i++) {
            add(list, columnOf(i));
            for (int j = 0; j < now.n() + now.m(); j++) {
                add(list, rows[i][j]);
            }
        }
        if (hasRay()) {
            add(list, rayColumn());
        } else if (!isOptimal()) {
            add(list, nextColumn(), nextRow());
        }
        add(list, Double.doubleToLongBits(value()), buffer.length());
        buffer.chars().forEach(code -> add(list, code));
        long hash = 4339;
        for (long number : list) {
            hash = 31 * hash + number;
        }
        return hash;
    }

    private static void add(List<Long> list, long... numbers) {
        for (long number : numbers) {
            list.add(number);
        }
    }

    private static void add(List<Long> list, Q... fractions) {
        for (Q fraction : fractions) {
            add(list, fraction.top, fraction.bottom);
        }
    }
}
