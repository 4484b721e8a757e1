/** What a desk tells of its problem and its basis, read once; all else that it tells follows from this. */
final class Told {
    final int variables;
    final int constraints;
    final int columns;
    final int[] named;
    final Fraction[][] entries;
    final Fraction[] reduced;
    final Fraction[] given;
    final Fraction value;
    private final int[] profits;
    private final int[][] coefficients;
    private final int[] bounds;

    Told(SimplexDesk desk) {
        variables = desk.variables();
        constraints = desk.constraints();
        columns = variables + constraints;
        profits = new int[variables];
        coefficients = new int[constraints][variables];
        bounds = new int[constraints];
        named = new int[constraints];
        entries = new Fraction[constraints][columns];
        reduced = new Fraction[columns];
        given = new Fraction[columns];
        value = Fraction.told("the value", desk.valueNumerator(), desk.valueDenominator());
        for (int variable = 0; variable < variables; variable++) {
            profits[variable] = desk.profitOf(variable);
        }
        for (int row = 0; row < constraints; row++) {
            readRow(desk, row);
        }
        for (int column = 0; column < columns; column++) {
            reduced[column] = Fraction.told("a reduced cost", desk.reducedNumerator(column), desk.reducedDenominator(column));
            given[column] = Fraction.told("what is given", desk.givenNumerator(column), desk.givenDenominator(column));
        }
    }

    private void readRow(SimplexDesk desk, int row) {
        named[row] = desk.columnOf(row);
        bounds[row] = desk.boundOf(row);
        for (int variable = 0; variable < variables; variable++) {
            coefficients[row][variable] = desk.coefficientOf(row, variable);
        }
        for (int column = 0; column < columns; column++) {
            entries[row][column] = Fraction.told("an entry", desk.entryNumerator(row, column), desk.entryDenominator(row, column));
        }
    }

    int profit(int column) {
        return column < variables ? profits[column] : 0;
    }

    int bound(int constraint) {
        return bounds[constraint];
    }

    /** The factor of a column in the first equation of a row. */
    int firstFactor(int row, int column) {
        return column < variables ? coefficients[row][column] : column == variables + row ? 1 : 0;
    }

    int rowNaming(int column) {
        for (int row = 0; row < constraints; row++) {
            if (named[row] == column) {
                return row;
            }
        }
        return -1;
    }

    /** The right side of a row: what its column is given. */
    Fraction side(int row) {
        return given[named[row]];
    }

    boolean hasRatio(int row, int column) {
        return entries[row][column].sign() > 0;
    }

    Fraction ratio(int row, int column) {
        return side(row).over(entries[row][column]);
    }

    /** Of the rows with the least ratio the one that names the lowest column; -1 if no row has a ratio. */
    int rowToPivot(int column) {
        int least = -1;
        for (int row = 0; row < constraints; row++) {
            if (hasRatio(row, column)) {
                boolean lower = least >= 0 && ratio(least, column).isSame(ratio(row, column)) && named[row] < named[least];
                if (least < 0 || ratio(least, column).isAbove(ratio(row, column)) || lower) {
                    least = row;
                }
            }
        }
        return least;
    }

    /** The lowest column with a reduced cost above 0 and no entry above 0; -1 if there is none. */
    int rayColumn() {
        for (int column = 0; column < columns; column++) {
            if (reduced[column].sign() > 0 && rowToPivot(column) < 0) {
                return column;
            }
        }
        return -1;
    }

    boolean isOptimal() {
        for (Fraction cost : reduced) {
            if (cost.sign() > 0) {
                return false;
            }
        }
        return true;
    }

    int reason(int row, int column) {
        if (rowNaming(column) >= 0) {
            return 1;
        }
        if (reduced[column].sign() <= 0) {
            return 2;
        }
        if (!hasRatio(row, column)) {
            return 3;
        }
        return ratio(row, column).isAbove(ratio(rowToPivot(column), column)) ? 4 : 0;
    }

    int chosenColumn(int rule) {
        int chosen = -1;
        for (int column = 0; column < columns; column++) {
            if (reduced[column].sign() > 0
                    && (chosen < 0 || rule > 0 && weight(rule, column).isAbove(weight(rule, chosen)))) {
                chosen = column;
            }
        }
        return chosen;
    }

    private Fraction weight(int rule, int column) {
        return rule == 1 ? reduced[column] : reduced[column].times(ratio(rowToPivot(column), column));
    }
}
