import java.util.ArrayList;
import java.util.List;

/** The hash of the promise 65, put together from what all other looks answer. */
final class Digests {
    private final SimplexDesk desk;
    private final int variables;
    private final int constraints;
    private final List<Long> list = new ArrayList<>();

    private Digests(SimplexDesk desk) {
        this.desk = desk;
        this.variables = desk.variables();
        this.constraints = desk.constraints();
    }

    /** The digest is that of the desk's answers and of this text in the buffer. */
    static void expect(SimplexDesk desk, String buffer) {
        Check.same("digest with the buffer " + buffer, desk.digest(), due(desk, buffer));
    }

    static long due(SimplexDesk desk, String buffer) {
        Digests digests = new Digests(desk);
        digests.putCounts();
        digests.putProblem();
        digests.putColumns();
        digests.putRows();
        digests.putNext();
        digests.put(Double.doubleToLongBits(desk.value()), buffer.length());
        buffer.chars().forEach(code -> digests.put(code));
        return hash(digests.list);
    }

    static long hash(List<Long> list) {
        long hash = 4339;
        for (long number : list) {
            hash = 31 * hash + number;
        }
        return hash;
    }

    private void put(long... numbers) {
        for (long number : numbers) {
            list.add(number);
        }
    }

    private static int truth(boolean truth) {
        return truth ? 1 : 0;
    }

    private void putCounts() {
        put(variables, constraints, desk.rule(), truth(desk.isOptimal()), truth(desk.hasRay()));
        put(desk.pivots(), desk.allPivots(), desk.idlePivots(), desk.valueNumerator(), desk.valueDenominator());
        put(desk.dualValueNumerator(), desk.dualValueDenominator(), desk.feasibleBases(), desk.unlikeValues());
        put(desk.bestNumerator(), desk.bestDenominator(), desk.pivotsLeft(), desk.savedStates());
    }

    private void putProblem() {
        for (int variable = 0; variable < variables; variable++) {
            put(desk.profitOf(variable));
        }
        for (int constraint = 0; constraint < constraints; constraint++) {
            for (int variable = 0; variable < variables; variable++) {
                put(desk.coefficientOf(constraint, variable));
            }
            put(desk.boundOf(constraint), desk.dualNumerator(constraint), desk.dualDenominator(constraint));
            put(desk.dualNumeratorByEquations(constraint), desk.dualDenominatorByEquations(constraint));
            put(desk.leastBound(constraint), desk.greatestBound(constraint));
        }
    }

    private void putColumns() {
        for (int column = 0; column < variables + constraints; column++) {
            put(truth(desk.isNamed(column)), desk.reducedNumerator(column), desk.reducedDenominator(column));
            put(desk.givenNumerator(column), desk.givenDenominator(column));
        }
    }

    private void putRows() {
        for (int row = 0; row < constraints; row++) {
            put(desk.columnOf(row));
            for (int column = 0; column < variables + constraints; column++) {
                put(desk.entryNumerator(row, column), desk.entryDenominator(row, column));
            }
        }
    }

    private void putNext() {
        if (desk.hasRay()) {
            put(desk.rayColumn());
        } else if (!desk.isOptimal()) {
            put(desk.nextColumn(), desk.nextRow());
        }
    }
}
