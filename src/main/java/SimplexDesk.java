/**
 * Linear programming by simplex with fractions. What each method promises stands in the document (DOC.md).
 *
 * No call makes an object or an array, but for an exception: all rooms are made by the constructor and used again.
 */
public final class SimplexDesk {
    private static final int FIRST_VARIABLES = 2;
    private static final int MOST_VARIABLES = 4;
    private static final int MOST_CONSTRAINTS = 4;
    private static final int MOST_COLUMNS = MOST_VARIABLES + MOST_CONSTRAINTS;
    private static final int MOST_FACTOR = 9;
    private static final int MOST_BOUND = 99;
    private static final int MOST_RULE = 2;
    private static final int MOST_PIVOTS = 40;
    private static final int MOST_SAVED = 6;
    private static final int MOST_SIGNS = 60;
    // The longest problem as a text has 79 characters; write() needs the room to find that it is too long.
    private static final int TEXT_ROOM = 80;
    // The ways to choose 4 of 8 columns.
    private static final int MOST_BASES = 70;
    private static final int FIRST_SIGN = 33;
    private static final int LAST_SIGN = 126;
    private static final long HASH_START = 4339;

    private final State now = new State();
    private final State trial = new State();
    private final State snapshot = new State();
    private final State[] saved = new State[MOST_SAVED];
    private final Text buffer = new Text();
    private final Text draft = new Text();
    private final Reader reader = new Reader();
    private final Equations equations = new Equations();
    private final Survey survey = new Survey();
    private boolean hasSnapshot;
    private int savedCount;

    public SimplexDesk() {
        for (int index = 0; index < saved.length; index++) {
            saved[index] = new State();
        }
    }

    // ---- the problem

    public int setVariables(int many) throws IllegalArgumentException {
        if (many < 1 || many > MOST_VARIABLES) {
            throw new IllegalArgumentException("a problem has 1 to 4 variables");
        }
        saveState();
        int before = now.problem.variables;
        now.problem.resize(many);
        now.start();
        return before;
    }

    public int setProfit(int variable, int profit) throws IndexOutOfBoundsException, IllegalArgumentException {
        requireVariable(variable);
        requireFactor(profit);
        saveState();
        int before = now.problem.profit(variable);
        now.problem.putProfit(variable, profit);
        now.start();
        return before;
    }

    public int addConstraint(int bound) throws IllegalArgumentException, IllegalStateException {
        requireBound(bound);
        if (now.problem.constraints >= MOST_CONSTRAINTS) {
            throw new IllegalStateException("there are 4 constraints");
        }
        saveState();
        int constraint = now.problem.add(bound);
        now.start();
        return constraint;
    }

    public int setCoefficient(int constraint, int variable, int coefficient)
            throws IndexOutOfBoundsException, IllegalArgumentException {
        requireConstraint(constraint);
        requireVariable(variable);
        requireFactor(coefficient);
        saveState();
        int before = now.problem.coefficient(constraint, variable);
        now.problem.putCoefficient(constraint, variable, coefficient);
        now.start();
        return before;
    }

    public int setBound(int constraint, int bound) throws IndexOutOfBoundsException, IllegalArgumentException {
        requireConstraint(constraint);
        requireBound(bound);
        saveState();
        int before = now.problem.bound(constraint);
        now.problem.putBound(constraint, bound);
        now.start();
        return before;
    }

    public int dropConstraint(int constraint) throws IndexOutOfBoundsException {
        requireConstraint(constraint);
        saveState();
        now.problem.drop(constraint);
        now.start();
        return now.problem.constraints;
    }

    // ---- the basis

    public int begin() {
        saveState();
        int before = now.pivots;
        now.start();
        return before;
    }

    public int pivot(int row, int column) throws IndexOutOfBoundsException, IllegalStateException {
        requireRow(row);
        requireColumn(column);
        if (now.tableau.obstacle(row, column) != 0) {
            throw new IllegalStateException("this pivot is not possible");
        }
        saveState();
        int before = now.tableau.namedBy(row);
        now.turn(row, column);
        return before;
    }

    public int step() throws IllegalStateException {
        requireOpen();
        saveState();
        int column = now.chosenColumn();
        now.turn(now.tableau.leastRow(column), column);
        return column;
    }

    public int solve() {
        saveState();
        return now.run();
    }

    public int setRule(int rule) throws IllegalArgumentException {
        if (rule < 0 || rule > MOST_RULE) {
            throw new IllegalArgumentException("a rule is 0 to 2");
        }
        saveState();
        int before = now.rule;
        now.rule = rule;
        return before;
    }

    // ---- texts

    public int append(int code) throws IllegalArgumentException, IllegalStateException {
        if (code < FIRST_SIGN || code > LAST_SIGN) {
            throw new IllegalArgumentException("a character code is 33 to 126");
        }
        if (buffer.length >= MOST_SIGNS) {
            throw new IllegalStateException("the buffer has 60 characters");
        }
        buffer.add(code);
        return buffer.length;
    }

    public int clearBuffer() {
        int before = buffer.length;
        buffer.clear();
        return before;
    }

    public int firstError() {
        reader.read(buffer);
        return reader.at;
    }

    public int load() throws IllegalArgumentException {
        if (!reader.read(buffer)) {
            throw new IllegalArgumentException("the buffer is not a complete problem");
        }
        saveState();
        now.problem.copy(reader.problem);
        now.start();
        buffer.clear();
        return now.problem.constraints;
    }

    public int write() throws IllegalStateException {
        draft.clear();
        draft.addProblem(now.problem);
        if (draft.length > MOST_SIGNS) {
            throw new IllegalStateException("the text would have more than 60 characters");
        }
        buffer.copy(draft);
        return buffer.length;
    }

    // ---- undo, the snapshot

    public int undo() throws IllegalStateException {
        if (savedCount < 1 || savedCount > saved.length) {
            throw new IllegalStateException("there is no saved state");
        }
        savedCount--;
        now.copy(saved[savedCount]);
        return savedCount;
    }

    public int keep() {
        snapshot.copy(now);
        hasSnapshot = true;
        return now.allPivots;
    }

    public int restore() throws IllegalStateException {
        if (!hasSnapshot) {
            throw new IllegalStateException("there is no snapshot");
        }
        saveState();
        now.copy(snapshot);
        return now.allPivots;
    }

    public int savedStates() {
        return savedCount;
    }

    // ---- looks at the problem; nothing is changed

    public int variables() {
        return now.problem.variables;
    }

    public int constraints() {
        return now.problem.constraints;
    }

    public int profitOf(int variable) throws IndexOutOfBoundsException {
        requireVariable(variable);
        return now.problem.profit(variable);
    }

    public int coefficientOf(int constraint, int variable) throws IndexOutOfBoundsException {
        requireConstraint(constraint);
        requireVariable(variable);
        return now.problem.coefficient(constraint, variable);
    }

    public int boundOf(int constraint) throws IndexOutOfBoundsException {
        requireConstraint(constraint);
        return now.problem.bound(constraint);
    }

    public int rule() {
        return now.rule;
    }

    // ---- looks at the basis

    public int columnOf(int row) throws IndexOutOfBoundsException {
        requireRow(row);
        return now.tableau.namedBy(row);
    }

    public boolean isNamed(int column) throws IndexOutOfBoundsException {
        requireColumn(column);
        return now.tableau.rowNaming(column) >= 0;
    }

    public boolean isOptimal() {
        return now.tableau.isBest();
    }

    public boolean hasRay() {
        return now.tableau.openColumn() >= 0;
    }

    public int pivots() {
        return now.pivots;
    }

    public int allPivots() {
        return now.allPivots;
    }

    public int idlePivots() {
        return now.idlePivots;
    }

    public long entryNumerator(int row, int column) throws IndexOutOfBoundsException {
        requireRow(row);
        requireColumn(column);
        return lowNumerator(now.tableau.entry(row, column), now.tableau.denominator);
    }

    public long entryDenominator(int row, int column) throws IndexOutOfBoundsException {
        requireRow(row);
        requireColumn(column);
        return lowDenominator(now.tableau.entry(row, column), now.tableau.denominator);
    }

    public long reducedNumerator(int column) throws IndexOutOfBoundsException {
        requireColumn(column);
        return lowNumerator(now.tableau.reduced(column), now.tableau.denominator);
    }

    public long reducedDenominator(int column) throws IndexOutOfBoundsException {
        requireColumn(column);
        return lowDenominator(now.tableau.reduced(column), now.tableau.denominator);
    }

    public long valueNumerator() {
        return lowNumerator(now.tableau.worth(), now.tableau.denominator);
    }

    public long valueDenominator() {
        return lowDenominator(now.tableau.worth(), now.tableau.denominator);
    }

    public long givenNumerator(int column) throws IndexOutOfBoundsException {
        requireColumn(column);
        return lowNumerator(now.tableau.given(column), now.tableau.denominator);
    }

    public long givenDenominator(int column) throws IndexOutOfBoundsException {
        requireColumn(column);
        return lowDenominator(now.tableau.given(column), now.tableau.denominator);
    }

    public double value() {
        return (double) valueNumerator() / (double) valueDenominator();
    }

    // ---- duals

    public long dualNumerator(int constraint) throws IndexOutOfBoundsException {
        requireConstraint(constraint);
        return lowNumerator(now.dual(constraint), now.tableau.denominator);
    }

    public long dualDenominator(int constraint) throws IndexOutOfBoundsException {
        requireConstraint(constraint);
        return lowDenominator(now.dual(constraint), now.tableau.denominator);
    }

    public long dualNumeratorByEquations(int constraint) throws IndexOutOfBoundsException {
        requireConstraint(constraint);
        equations.solveDuals(now);
        return lowNumerator(equations.unknown(constraint), equations.denominator);
    }

    public long dualDenominatorByEquations(int constraint) throws IndexOutOfBoundsException {
        requireConstraint(constraint);
        equations.solveDuals(now);
        return lowDenominator(equations.unknown(constraint), equations.denominator);
    }

    public long dualValueNumerator() {
        return lowNumerator(now.dualWorth(), now.tableau.denominator);
    }

    public long dualValueDenominator() {
        return lowDenominator(now.dualWorth(), now.tableau.denominator);
    }

    // ---- rays

    public int rayColumn() throws IllegalStateException {
        requireRay();
        return now.tableau.openColumn();
    }

    public long rayNumerator(int column) throws IndexOutOfBoundsException, IllegalStateException {
        requireColumn(column);
        requireRay();
        return lowNumerator(now.tableau.growth(column), now.tableau.denominator);
    }

    public long rayDenominator(int column) throws IndexOutOfBoundsException, IllegalStateException {
        requireColumn(column);
        requireRay();
        return lowDenominator(now.tableau.growth(column), now.tableau.denominator);
    }

    // ---- all feasible bases

    public int feasibleBases() {
        survey.look(now.problem);
        return survey.feasible;
    }

    public int unlikeValues() {
        survey.look(now.problem);
        return survey.unlike;
    }

    public long bestNumerator() {
        survey.look(now.problem);
        return survey.bestNumerator;
    }

    public long bestDenominator() {
        survey.look(now.problem);
        return survey.bestDenominator;
    }

    // ---- what would be; nothing is changed

    public int whyNoPivot(int row, int column) throws IndexOutOfBoundsException {
        requireRow(row);
        requireColumn(column);
        return now.tableau.obstacle(row, column);
    }

    public int nextColumn() throws IllegalStateException {
        requireOpen();
        return now.chosenColumn();
    }

    public int nextRow() throws IllegalStateException {
        requireOpen();
        return now.tableau.leastRow(now.chosenColumn());
    }

    public int pivotsLeft() {
        trial.copy(now);
        return trial.run();
    }

    public int leastBound(int constraint) throws IndexOutOfBoundsException {
        requireConstraint(constraint);
        int bound = now.problem.bound(constraint);
        return Math.max(0, bound - now.roomToFall(constraint));
    }

    public int greatestBound(int constraint) throws IndexOutOfBoundsException {
        requireConstraint(constraint);
        int bound = now.problem.bound(constraint);
        return Math.min(MOST_BOUND, bound + now.roomToRise(constraint));
    }

    public long solvedNumerator(int constraint, int bound)
            throws IndexOutOfBoundsException, IllegalArgumentException, IllegalStateException {
        tryBound(constraint, bound);
        return lowNumerator(trial.tableau.worth(), trial.tableau.denominator);
    }

    public long solvedDenominator(int constraint, int bound)
            throws IndexOutOfBoundsException, IllegalArgumentException, IllegalStateException {
        tryBound(constraint, bound);
        return lowDenominator(trial.tableau.worth(), trial.tableau.denominator);
    }

    public long digest() {
        long hash = HASH_START;
        hash = mixCounts(hash);
        hash = mixValues(hash);
        hash = mix(hash, pivotsLeft());
        hash = mix(hash, savedCount);
        hash = mixProblem(hash);
        hash = mixColumns(hash);
        hash = mixRows(hash);
        hash = mixNext(hash);
        hash = mix(hash, bitsOf(value()));
        return mixBuffer(hash);
    }

    // ---- the parts of the digest

    private static long mix(long hash, long value) {
        return 31 * hash + value;
    }

    private static long mixTruth(long hash, boolean truth) {
        return mix(hash, truth ? 1 : 0);
    }

    private static long mixFraction(long hash, long numerator, long denominator) {
        long mixed = mix(hash, lowNumerator(numerator, denominator));
        return mix(mixed, lowDenominator(numerator, denominator));
    }

    private long mixCounts(long hash) {
        long mixed = mix(hash, now.problem.variables);
        mixed = mix(mixed, now.problem.constraints);
        mixed = mix(mixed, now.rule);
        mixed = mixTruth(mixed, isOptimal());
        mixed = mixTruth(mixed, hasRay());
        mixed = mix(mixed, now.pivots);
        mixed = mix(mixed, now.allPivots);
        return mix(mixed, now.idlePivots);
    }

    private long mixValues(long hash) {
        long mixed = mixFraction(hash, now.tableau.worth(), now.tableau.denominator);
        mixed = mixFraction(mixed, now.dualWorth(), now.tableau.denominator);
        survey.look(now.problem);
        mixed = mix(mixed, survey.feasible);
        mixed = mix(mixed, survey.unlike);
        mixed = mix(mixed, survey.bestNumerator);
        return mix(mixed, survey.bestDenominator);
    }

    private long mixProblem(long hash) {
        long mixed = hash;
        for (int variable = 0; variable < now.problem.variables; variable++) {
            mixed = mix(mixed, now.problem.profit(variable));
        }
        equations.solveDuals(now);
        for (int constraint = 0; constraint < now.problem.constraints; constraint++) {
            for (int variable = 0; variable < now.problem.variables; variable++) {
                mixed = mix(mixed, now.problem.coefficient(constraint, variable));
            }
            mixed = mix(mixed, now.problem.bound(constraint));
            mixed = mixFraction(mixed, now.dual(constraint), now.tableau.denominator);
            mixed = mixFraction(mixed, equations.unknown(constraint), equations.denominator);
            mixed = mix(mixed, leastBound(constraint));
            mixed = mix(mixed, greatestBound(constraint));
        }
        return mixed;
    }

    private long mixColumns(long hash) {
        long mixed = hash;
        for (int column = 0; column < now.tableau.columns; column++) {
            mixed = mixTruth(mixed, now.tableau.rowNaming(column) >= 0);
            mixed = mixFraction(mixed, now.tableau.reduced(column), now.tableau.denominator);
            mixed = mixFraction(mixed, now.tableau.given(column), now.tableau.denominator);
        }
        return mixed;
    }

    private long mixRows(long hash) {
        long mixed = hash;
        for (int row = 0; row < now.tableau.rows; row++) {
            mixed = mix(mixed, now.tableau.namedBy(row));
            for (int column = 0; column < now.tableau.columns; column++) {
                mixed = mixFraction(mixed, now.tableau.entry(row, column), now.tableau.denominator);
            }
        }
        return mixed;
    }

    private long mixNext(long hash) {
        if (hasRay()) {
            return mix(hash, now.tableau.openColumn());
        }
        if (isOptimal()) {
            return hash;
        }
        int column = now.chosenColumn();
        return mix(mix(hash, column), now.tableau.leastRow(column));
    }

    private long mixBuffer(long hash) {
        long mixed = mix(hash, buffer.length);
        for (int index = 0; index < buffer.length; index++) {
            mixed = mix(mixed, buffer.codeAt(index));
        }
        return mixed;
    }

    /**
     * The bits of a double as Double.doubleToLongBits tells them, which the language leaves out. The number is a
     * value, so it is 0 or between 1 / 1,000,000 and 1,000,000,000: no sign, no number without a leading 1.
     */
    private static long bitsOf(double number) {
        if (number <= 0) {
            return 0;
        }
        double leading = number;
        long exponent = 1023;
        for (int turn = 0; turn < 64 && leading >= 2; turn++) {
            leading = leading / 2;
            exponent++;
        }
        for (int turn = 0; turn < 64 && leading < 1; turn++) {
            leading = leading * 2;
            exponent--;
        }
        return (exponent << 52) + (long) ((leading - 1) * (double) (1L << 52));
    }

    // ---- what calls need before they go on

    private void requireVariable(int variable) {
        if (variable < 0 || variable >= now.problem.variables) {
            throw new IndexOutOfBoundsException("there is no such variable");
        }
    }

    private void requireConstraint(int constraint) {
        if (constraint < 0 || constraint >= now.problem.constraints) {
            throw new IndexOutOfBoundsException("there is no such constraint");
        }
    }

    private void requireRow(int row) {
        if (row < 0 || row >= now.tableau.rows) {
            throw new IndexOutOfBoundsException("there is no such row");
        }
    }

    private void requireColumn(int column) {
        if (column < 0 || column >= now.tableau.columns) {
            throw new IndexOutOfBoundsException("there is no such column");
        }
    }

    private static void requireFactor(int factor) {
        if (factor < -MOST_FACTOR || factor > MOST_FACTOR) {
            throw new IllegalArgumentException("a profit or a coefficient is -9 to 9");
        }
    }

    private static void requireBound(int bound) {
        if (bound < 0 || bound > MOST_BOUND) {
            throw new IllegalArgumentException("a bound is 0 to 99");
        }
    }

    private void requireOpen() {
        if (!now.tableau.isOpen()) {
            throw new IllegalStateException("the basis is optimal or has a ray");
        }
    }

    private void requireRay() {
        if (now.tableau.openColumn() < 0) {
            throw new IllegalStateException("the basis has no ray");
        }
    }

    // ---- saved states and trials

    private void saveState() {
        if (savedCount >= saved.length) {
            dropOldest();
        }
        if (savedCount >= 0 && savedCount < saved.length) {
            State free = saved[savedCount];
            if (free != null) {
                free.copy(now);
                savedCount++;
            }
        }
    }

    // The oldest state goes to the end, where its room is used for the next one.
    private void dropOldest() {
        for (int index = 0; index + 1 < saved.length; index++) {
            State later = saved[index + 1];
            saved[index + 1] = saved[index];
            saved[index] = later;
        }
        savedCount--;
    }

    private void tryBound(int constraint, int bound) {
        requireConstraint(constraint);
        requireBound(bound);
        trial.copy(now);
        trial.problem.putBound(constraint, bound);
        trial.start();
        trial.run();
        if (!trial.tableau.isBest()) {
            throw new IllegalStateException("the last basis would not be optimal");
        }
    }

    // ---- fractions

    private static long lowNumerator(long numerator, long denominator) {
        long divisor = commonDivisor(numerator, denominator);
        if (divisor == 0) {
            return 0;
        }
        return denominator < 0 ? -(numerator / divisor) : numerator / divisor;
    }

    private static long lowDenominator(long numerator, long denominator) {
        long divisor = commonDivisor(numerator, denominator);
        if (divisor == 0) {
            return 1;
        }
        return Math.abs(denominator) / divisor;
    }

    // Euclid's algorithm needs under 100 turns for any two longs.
    private static long commonDivisor(long one, long other) {
        long large = Math.abs(one);
        long small = Math.abs(other);
        for (int turn = 0; turn < 100 && small != 0; turn++) {
            long rest = large % small;
            large = small;
            small = rest;
        }
        return large;
    }

    /** A table of numbers; outside it a look answers 0, and a write does nothing. */
    private static final class Grid {
        private final int width;
        private final long[] cells;

        Grid(int height, int width) {
            this.width = Math.max(1, width);
            this.cells = new long[Math.max(1, height) * this.width];
        }

        long at(int row, int column) {
            int place = row * width + column;
            if (row < 0 || column < 0 || column >= width || place < 0 || place >= cells.length) {
                return 0;
            }
            return cells[place];
        }

        void put(int row, int column, long number) {
            int place = row * width + column;
            if (row >= 0 && column >= 0 && column < width && place >= 0 && place < cells.length) {
                cells[place] = number;
            }
        }

        // Multiplies a row, and takes another one from it, so that its cell of a column becomes 0. The divisions leave
        // no rest when the divisor is the factor of the turn before, since their results are determinants then.
        void clear(int row, int by, int column, int last, long divisor) {
            long factor = at(by, column);
            long share = at(row, column);
            for (int place = 0; place <= last; place++) {
                long number = at(row, place) * factor - share * at(by, place);
                put(row, place, divisor == 0 ? 0 : number / divisor);
            }
        }

        void copy(Grid from) {
            if (from != null && from.cells.length == cells.length) {
                System.arraycopy(from.cells, 0, cells, 0, cells.length);
            }
        }
    }

    /** A problem: a row for each constraint, its bound behind the coefficients, and a last row for the profits. */
    private static final class Problem {
        private static final int PROFITS = MOST_CONSTRAINTS;
        private static final int BOUND = MOST_VARIABLES;

        private int variables = FIRST_VARIABLES;
        private int constraints;
        private final Grid numbers = new Grid(MOST_CONSTRAINTS + 1, MOST_VARIABLES + 1);

        int profit(int variable) {
            return (int) numbers.at(PROFITS, variable);
        }

        void putProfit(int variable, int profit) {
            numbers.put(PROFITS, variable, profit);
        }

        int coefficient(int constraint, int variable) {
            return (int) numbers.at(constraint, variable);
        }

        void putCoefficient(int constraint, int variable, int coefficient) {
            numbers.put(constraint, variable, coefficient);
        }

        int bound(int constraint) {
            return (int) numbers.at(constraint, BOUND);
        }

        void putBound(int constraint, int bound) {
            numbers.put(constraint, BOUND, bound);
        }

        // The factor of a column in the first equation of a row.
        int firstFactor(int row, int column) {
            if (column < variables) {
                return coefficient(row, column);
            }
            return column - variables == row ? 1 : 0;
        }

        int columnProfit(int column) {
            return column < variables ? profit(column) : 0;
        }

        void resize(int many) {
            for (int variable = many; variable < MOST_VARIABLES; variable++) {
                for (int row = 0; row <= PROFITS; row++) {
                    numbers.put(row, variable, 0);
                }
            }
            variables = many;
        }

        int add(int bound) {
            int constraint = constraints;
            for (int variable = 0; variable < MOST_VARIABLES; variable++) {
                putCoefficient(constraint, variable, 0);
            }
            putBound(constraint, bound);
            constraints++;
            return constraint;
        }

        void drop(int constraint) {
            for (int row = constraint; row < constraints - 1; row++) {
                for (int column = 0; column <= BOUND; column++) {
                    numbers.put(row, column, numbers.at(row + 1, column));
                }
            }
            constraints--;
        }

        void empty(int many) {
            resize(0);
            variables = many;
            constraints = 0;
        }

        void copy(Problem from) {
            if (from != null) {
                variables = from.variables;
                constraints = from.constraints;
                numbers.copy(from.numbers);
            }
        }
    }

    /**
     * The tableau of a basis, in integers over one denominator above 0, which is the size of the determinant of the
     * basis: all numbers are determinants of factors then, and stay below 100,000,000. Behind the columns stand the
     * right sides, behind the rows the reduced costs, and where both meet the value with the other sign.
     */
    private static final class Tableau {
        private int rows;
        private int columns = FIRST_VARIABLES;
        private long denominator = 1;
        private final Grid named = new Grid(1, MOST_CONSTRAINTS);
        private final Grid cells = new Grid(MOST_CONSTRAINTS + 1, MOST_COLUMNS + 1);

        void start(Problem problem) {
            if (problem == null) {
                return;
            }
            rows = problem.constraints;
            columns = problem.variables + problem.constraints;
            denominator = 1;
            for (int row = 0; row < rows; row++) {
                named.put(0, row, problem.variables + row);
                for (int column = 0; column < columns; column++) {
                    cells.put(row, column, problem.firstFactor(row, column));
                }
                cells.put(row, columns, problem.bound(row));
            }
            for (int column = 0; column < columns; column++) {
                cells.put(rows, column, problem.columnProfit(column));
            }
            cells.put(rows, columns, 0);
        }

        void copy(Tableau from) {
            if (from != null) {
                rows = from.rows;
                columns = from.columns;
                denominator = from.denominator;
                named.copy(from.named);
                cells.copy(from.cells);
            }
        }

        long entry(int row, int column) {
            return cells.at(row, column);
        }

        long side(int row) {
            return cells.at(row, columns);
        }

        long reduced(int column) {
            return cells.at(rows, column);
        }

        long worth() {
            return -cells.at(rows, columns);
        }

        int namedBy(int row) {
            return (int) named.at(0, row);
        }

        int rowNaming(int column) {
            for (int row = 0; row < rows; row++) {
                if (namedBy(row) == column) {
                    return row;
                }
            }
            return -1;
        }

        long given(int column) {
            int row = rowNaming(column);
            return row < 0 ? 0 : side(row);
        }

        boolean isBest() {
            for (int column = 0; column < columns; column++) {
                if (reduced(column) > 0) {
                    return false;
                }
            }
            return true;
        }

        // The lowest column along which the value grows without a bound; -1 if there is none.
        int openColumn() {
            for (int column = 0; column < columns; column++) {
                if (reduced(column) > 0 && leastRow(column) < 0) {
                    return column;
                }
            }
            return -1;
        }

        boolean isOpen() {
            return !isBest() && openColumn() < 0;
        }

        // The row with the least ratio, of several the one that names the lowest column; -1 if none has a ratio.
        // Ratios are compared without a division, since the entries of both rows are above 0.
        int leastRow(int column) {
            int least = -1;
            long leastEntry = 0;
            long leastSide = 0;
            for (int row = 0; row < rows; row++) {
                long entry = cells.at(row, column);
                long side = cells.at(row, columns);
                long order = side * leastEntry - leastSide * entry;
                if (entry > 0 && (least < 0 || order < 0
                        || order == 0 && named.at(0, row) < named.at(0, least))) {
                    least = row;
                    leastEntry = entry;
                    leastSide = side;
                }
            }
            return least;
        }

        int obstacle(int row, int column) {
            if (rowNaming(column) >= 0) {
                return 1;
            }
            if (reduced(column) <= 0) {
                return 2;
            }
            if (entry(row, column) <= 0) {
                return 3;
            }
            int least = leastRow(column);
            return side(least) * entry(row, column) < side(row) * entry(least, column) ? 4 : 0;
        }

        // The column that a rule chooses, if the basis is neither optimal nor has a ray.
        int chosenColumn(int rule) {
            int chosen = -1;
            for (int column = 0; column < columns; column++) {
                if (reduced(column) > 0 && (chosen < 0
                        || rule == 1 && reduced(column) > reduced(chosen)
                        || rule == 2 && gainsMore(column, chosen))) {
                    chosen = column;
                }
            }
            return chosen;
        }

        // The gains are compared without fractions: the products stay below 1,000,000,000,000,000,000.
        private boolean gainsMore(int column, int chosen) {
            int row = leastRow(column);
            int chosenRow = leastRow(chosen);
            long gain = reduced(column) * side(row) * entry(chosenRow, chosen);
            long chosenGain = reduced(chosen) * side(chosenRow) * entry(row, column);
            return gain > chosenGain;
        }

        // Rewrites the equations so that the row names the column.
        void turn(int row, int column) {
            long factor = entry(row, column);
            if (factor <= 0) {
                return;
            }
            for (int other = 0; other <= rows; other++) {
                if (other != row) {
                    cells.clear(other, row, column, columns, denominator);
                }
            }
            named.put(0, row, column);
            denominator = factor;
        }

        // What a column gets more along the ray.
        long growth(int column) {
            int open = openColumn();
            if (column == open) {
                return denominator;
            }
            int row = rowNaming(column);
            return row < 0 ? 0 : -entry(row, open);
        }

        // How far a bound can be moved before a right side falls below 0, when moving it by 1 takes the entries of
        // its slack, times the sign, from the right sides.
        int room(int slack, int sign) {
            long room = MOST_BOUND;
            for (int row = 0; row < rows; row++) {
                long loss = sign * entry(row, slack);
                if (loss > 0) {
                    room = Math.min(room, side(row) / loss);
                }
            }
            return (int) room;
        }
    }

    /** What undo and the snapshot bring back: the problem, the rule, the basis and the counts. */
    private static final class State {
        private final Problem problem = new Problem();
        private final Tableau tableau = new Tableau();
        private int rule;
        private int pivots;
        private int allPivots;
        private int idlePivots;

        void copy(State from) {
            if (from != null) {
                problem.copy(from.problem);
                tableau.copy(from.tableau);
                rule = from.rule;
                pivots = from.pivots;
                allPivots = from.allPivots;
                idlePivots = from.idlePivots;
            }
        }

        void start() {
            tableau.start(problem);
            pivots = 0;
        }

        int chosenColumn() {
            return tableau.chosenColumn(rule);
        }

        // Since the reduced cost is above 0, the value stays only if the right side of the row is 0.
        void turn(int row, int column) {
            if (tableau.side(row) == 0) {
                idlePivots++;
            }
            tableau.turn(row, column);
            pivots++;
            allPivots++;
        }

        int run() {
            int made = 0;
            while (made < MOST_PIVOTS && tableau.isOpen()) {
                int column = tableau.chosenColumn(rule);
                turn(tableau.leastRow(column), column);
                made++;
            }
            return made;
        }

        long dual(int constraint) {
            return -tableau.reduced(problem.variables + constraint);
        }

        long dualWorth() {
            long sum = 0;
            for (int constraint = 0; constraint < problem.constraints; constraint++) {
                sum += dual(constraint) * problem.bound(constraint);
            }
            return sum;
        }

        int roomToFall(int constraint) {
            return tableau.room(problem.variables + constraint, 1);
        }

        int roomToRise(int constraint) {
            return tableau.room(problem.variables + constraint, -1);
        }
    }

    /** Characters by their codes. */
    private static final class Text {
        private int length;
        private final Grid codes = new Grid(1, TEXT_ROOM);

        int codeAt(int index) {
            return (int) codes.at(0, index);
        }

        void add(int code) {
            codes.put(0, length, code);
            length++;
        }

        void clear() {
            length = 0;
        }

        void copy(Text from) {
            if (from != null) {
                length = from.length;
                codes.copy(from.codes);
            }
        }

        void addProblem(Problem problem) {
            if (problem == null) {
                return;
            }
            add('v');
            add('0' + problem.variables);
            add(';');
            add('m');
            for (int variable = 0; variable < problem.variables; variable++) {
                addFactor(variable, problem.profit(variable));
            }
            for (int constraint = 0; constraint < problem.constraints; constraint++) {
                add(';');
                add('c');
                for (int variable = 0; variable < problem.variables; variable++) {
                    addFactor(variable, problem.coefficient(constraint, variable));
                }
                add('<');
                addBound(problem.bound(constraint));
            }
        }

        private void addFactor(int variable, int factor) {
            if (variable > 0) {
                add(',');
            }
            if (factor < 0) {
                add('-');
            }
            add('0' + Math.abs(factor));
        }

        private void addBound(int bound) {
            if (bound > 9) {
                add('0' + bound / 10);
            }
            add('0' + bound % 10);
        }
    }

    /** Reads a text from left to right, and stops at the first character that cannot stand there, or at the end. */
    private static final class Reader {
        private final Text text = new Text();
        private final Problem problem = new Problem();
        private int at;

        // Tells whether the text is a complete problem; the place where it stopped is the first syntax error.
        boolean read(Text from) {
            text.copy(from);
            at = 0;
            if (!take('v') || !nextIsDigit('1', '4')) {
                return false;
            }
            problem.empty(takeDigit());
            if (!take(';') || !take('m') || !takeFactors(Problem.PROFITS)) {
                return false;
            }
            for (int constraint = 0; constraint < MOST_CONSTRAINTS && at < text.length; constraint++) {
                if (!takeConstraint()) {
                    return false;
                }
            }
            return at == text.length;
        }

        private boolean take(int code) {
            if (at >= text.length || text.codeAt(at) != code) {
                return false;
            }
            at++;
            return true;
        }

        private boolean nextIsDigit(int first, int last) {
            return at < text.length && text.codeAt(at) >= first && text.codeAt(at) <= last;
        }

        private int takeDigit() {
            int digit = text.codeAt(at) - '0';
            at++;
            return digit;
        }

        private boolean takeConstraint() {
            int constraint = problem.add(0);
            return take(';') && take('c') && takeFactors(constraint) && take('<') && takeBound(constraint);
        }

        private boolean takeFactors(int row) {
            for (int variable = 0; variable < problem.variables; variable++) {
                if (variable > 0 && !take(',')) {
                    return false;
                }
                int sign = take('-') ? -1 : 1;
                if (!nextIsDigit(sign < 0 ? '1' : '0', '9')) {
                    return false;
                }
                problem.numbers.put(row, variable, sign * takeDigit());
            }
            return true;
        }

        private boolean takeBound(int constraint) {
            if (!nextIsDigit('0', '9')) {
                return false;
            }
            int bound = takeDigit();
            if (bound > 0 && nextIsDigit('0', '9')) {
                bound = 10 * bound + takeDigit();
            }
            problem.putBound(constraint, bound);
            return true;
        }
    }

    /**
     * As many linear equations as unknowns, a row each, with the right side behind the factors; solved in integers,
     * so that the unknowns have one denominator, which is a determinant and can be below 0.
     */
    private static final class Equations {
        private int size;
        private long denominator = 1;
        private final Grid cells = new Grid(MOST_CONSTRAINTS, MOST_CONSTRAINTS + 1);

        long unknown(int index) {
            return cells.at(index, size);
        }

        // An equation for each row: the duals times the first factors of its column are its profit.
        boolean solveDuals(State state) {
            if (state == null) {
                return false;
            }
            size = state.problem.constraints;
            for (int row = 0; row < size; row++) {
                int column = state.tableau.namedBy(row);
                for (int constraint = 0; constraint < size; constraint++) {
                    cells.put(row, constraint, state.problem.firstFactor(constraint, column));
                }
                cells.put(row, size, state.problem.columnProfit(column));
            }
            return eliminate();
        }

        // An equation for each constraint: its first equation with the columns of a set alone.
        boolean solveBasis(Problem problem, int columnSet) {
            if (problem == null) {
                return false;
            }
            size = problem.constraints;
            int unknown = 0;
            for (int column = 0; column < problem.variables + size; column++) {
                if ((columnSet >> column & 1) == 1) {
                    for (int row = 0; row < size; row++) {
                        cells.put(row, unknown, problem.firstFactor(row, column));
                    }
                    unknown++;
                }
            }
            for (int row = 0; row < size; row++) {
                cells.put(row, size, problem.bound(row));
            }
            return eliminate();
        }

        // Tells whether the equations have exactly one solution.
        private boolean eliminate() {
            denominator = 1;
            for (int index = 0; index < size; index++) {
                int found = rowWith(index);
                if (found < 0) {
                    return false;
                }
                swap(found, index);
                for (int row = 0; row < size; row++) {
                    if (row != index) {
                        cells.clear(row, index, index, size, denominator);
                    }
                }
                denominator = cells.at(index, index);
            }
            return true;
        }

        private int rowWith(int index) {
            for (int row = index; row < size; row++) {
                if (cells.at(row, index) != 0) {
                    return row;
                }
            }
            return -1;
        }

        private void swap(int row, int other) {
            for (int place = 0; place <= size; place++) {
                long number = cells.at(row, place);
                cells.put(row, place, cells.at(other, place));
                cells.put(other, place, number);
            }
        }
    }

    /** A look at all feasible bases of a problem, without any pivot. */
    private static final class Survey {
        private static final int NUMERATORS = 0;
        private static final int DENOMINATORS = 1;

        private final Equations equations = new Equations();
        private final Grid values = new Grid(2, MOST_BASES);
        private int feasible;
        private int unlike;
        private long bestNumerator;
        private long bestDenominator = 1;

        void look(Problem problem) {
            feasible = 0;
            unlike = 0;
            if (problem == null) {
                return;
            }
            int sets = 1 << Math.min(MOST_COLUMNS, problem.variables + problem.constraints);
            for (int columnSet = 0; columnSet < sets; columnSet++) {
                if (Integer.bitCount(columnSet) == problem.constraints && equations.solveBasis(problem, columnSet)
                        && isFeasible()) {
                    feasible++;
                    noteValue(sumOfProfits(problem, columnSet), equations.denominator);
                }
            }
        }

        private boolean isFeasible() {
            for (int index = 0; index < equations.size; index++) {
                long unknown = equations.unknown(index);
                if (equations.denominator < 0 ? unknown > 0 : unknown < 0) {
                    return false;
                }
            }
            return true;
        }

        private long sumOfProfits(Problem problem, int columnSet) {
            if (problem == null) {
                return 0;
            }
            long sum = 0;
            int unknown = 0;
            for (int column = 0; column < problem.variables + problem.constraints; column++) {
                if ((columnSet >> column & 1) == 1) {
                    sum += problem.columnProfit(column) * equations.unknown(unknown);
                    unknown++;
                }
            }
            return sum;
        }

        private void noteValue(long numerator, long denominator) {
            long low = lowNumerator(numerator, denominator);
            long under = lowDenominator(numerator, denominator);
            if (isNoted(low, under)) {
                return;
            }
            if (unlike == 0 || low * bestDenominator > bestNumerator * under) {
                bestNumerator = low;
                bestDenominator = under;
            }
            values.put(NUMERATORS, unlike, low);
            values.put(DENOMINATORS, unlike, under);
            unlike++;
        }

        private boolean isNoted(long numerator, long denominator) {
            for (int index = 0; index < unlike; index++) {
                if (values.at(NUMERATORS, index) == numerator && values.at(DENOMINATORS, index) == denominator) {
                    return true;
                }
            }
            return false;
        }
    }
}
