/**
 * "Exceptions" and every throws clause: each wrong argument, each state in which a call is refused, the order of the
 * exceptions, and that a refused call changes nothing: not the problem, the rule, the basis, a count, the buffer, a
 * saved state or the snapshot.
 */
public final class RefusalsTest {
    private RefusalsTest() {
    }

    public static void main(String[] args) {
        wrongIndexes("a new object", SimplexDesk::new);
        wrongIndexes("a desk without a constraint", () -> Twins.sized(4, 0));
        wrongIndexes("a prepared desk", () -> Twins.prepared(5));
        wrongIndexes("a full desk", Twins::full);
        wrongIndexes("an optimal desk", Twins::optimal);
        wrongIndexes("a desk with a ray", Twins::ray);
        rightIndexes();
        wrongNumbers("a prepared desk", () -> Twins.prepared(0));
        wrongNumbers("a full desk", Twins::full);
        wrongNumbers("a desk with a ray", Twins::ray);
        orderInCallsWithTwoIndexes();
        fullDesk();
        pivotsRefused();
        optimalDesk();
        rayDesk();
        noRay();
        nothingSaved();
        noSnapshot();
        solvedRefused();
        Check.end("RefusalsTest");
    }

    private static void wrongIndexes(String name, Twins.Maker maker) {
        Check.begin("wrong indexes of " + name);
        SimplexDesk desk = maker.make();
        int variables = desk.variables();
        int constraints = desk.constraints();
        for (int wrong : new int[] {-1, variables, Twins.LOW, Twins.HIGH}) {
            wrongVariable(maker, wrong);
        }
        for (int wrong : new int[] {-1, constraints, Twins.LOW, Twins.HIGH}) {
            wrongConstraint(maker, wrong);
            wrongDual(maker, wrong);
            wrongBoundLook(maker, wrong);
            wrongRow(maker, wrong);
        }
        for (int wrong : new int[] {-1, variables + constraints, Twins.LOW, Twins.HIGH}) {
            wrongColumn(maker, wrong);
            wrongColumnOfRow(maker, wrong);
        }
    }

    private static void index(Twins.Maker maker, String what, int wrong, Twins.At at) {
        Twins.refuses(maker, what + " with the index " + wrong, Twins.INDEX, desk -> at.on(desk, wrong));
    }

    private static void wrongVariable(Twins.Maker maker, int wrong) {
        index(maker, "setProfit", wrong, (desk, at) -> desk.setProfit(at, 9));
        index(maker, "setProfit to 10", wrong, (desk, at) -> desk.setProfit(at, 10));
        index(maker, "setProfit to -10", wrong, (desk, at) -> desk.setProfit(at, -10));
        index(maker, "setCoefficient of the variable", wrong, (desk, at) -> desk.setCoefficient(0, at, 9));
        index(maker, "setCoefficient of the variable to 10", wrong, (desk, at) -> desk.setCoefficient(0, at, 10));
        index(maker, "setCoefficient of the variable to -10", wrong, (desk, at) -> desk.setCoefficient(0, at, -10));
        index(maker, "profitOf", wrong, SimplexDesk::profitOf);
        index(maker, "coefficientOf the variable", wrong, (desk, at) -> desk.coefficientOf(0, at));
    }

    private static void wrongConstraint(Twins.Maker maker, int wrong) {
        index(maker, "setCoefficient", wrong, (desk, at) -> desk.setCoefficient(at, 0, 9));
        index(maker, "setCoefficient to 10", wrong, (desk, at) -> desk.setCoefficient(at, 0, 10));
        index(maker, "setCoefficient of no variable", wrong, (desk, at) -> desk.setCoefficient(at, 4, 10));
        index(maker, "setBound", wrong, (desk, at) -> desk.setBound(at, 99));
        index(maker, "setBound to 100", wrong, (desk, at) -> desk.setBound(at, 100));
        index(maker, "setBound to -1", wrong, (desk, at) -> desk.setBound(at, -1));
        index(maker, "dropConstraint", wrong, SimplexDesk::dropConstraint);
        index(maker, "coefficientOf", wrong, (desk, at) -> desk.coefficientOf(at, 0));
        index(maker, "coefficientOf no variable", wrong, (desk, at) -> desk.coefficientOf(at, 4));
        index(maker, "boundOf", wrong, SimplexDesk::boundOf);
    }

    private static void wrongDual(Twins.Maker maker, int wrong) {
        index(maker, "dualNumerator", wrong, SimplexDesk::dualNumerator);
        index(maker, "dualDenominator", wrong, SimplexDesk::dualDenominator);
        index(maker, "dualNumeratorByEquations", wrong, SimplexDesk::dualNumeratorByEquations);
        index(maker, "dualDenominatorByEquations", wrong, SimplexDesk::dualDenominatorByEquations);
    }

    private static void wrongBoundLook(Twins.Maker maker, int wrong) {
        index(maker, "leastBound", wrong, SimplexDesk::leastBound);
        index(maker, "greatestBound", wrong, SimplexDesk::greatestBound);
        index(maker, "solvedNumerator", wrong, (desk, at) -> desk.solvedNumerator(at, 99));
        index(maker, "solvedNumerator with 100", wrong, (desk, at) -> desk.solvedNumerator(at, 100));
        index(maker, "solvedNumerator with -1", wrong, (desk, at) -> desk.solvedNumerator(at, -1));
        index(maker, "solvedDenominator", wrong, (desk, at) -> desk.solvedDenominator(at, 0));
        index(maker, "solvedDenominator with 100", wrong, (desk, at) -> desk.solvedDenominator(at, 100));
        index(maker, "solvedDenominator with -1", wrong, (desk, at) -> desk.solvedDenominator(at, -1));
    }

    private static void wrongRow(Twins.Maker maker, int wrong) {
        index(maker, "pivot of the row", wrong, (desk, at) -> desk.pivot(at, 0));
        index(maker, "pivot of the row and no column", wrong, (desk, at) -> desk.pivot(at, 8));
        index(maker, "columnOf", wrong, SimplexDesk::columnOf);
        index(maker, "entryNumerator of the row", wrong, (desk, at) -> desk.entryNumerator(at, 0));
        index(maker, "entryDenominator of the row", wrong, (desk, at) -> desk.entryDenominator(at, 0));
        index(maker, "whyNoPivot of the row", wrong, (desk, at) -> desk.whyNoPivot(at, 0));
    }

    private static void wrongColumn(Twins.Maker maker, int wrong) {
        index(maker, "isNamed", wrong, (desk, at) -> desk.isNamed(at) ? 1 : 0);
        index(maker, "reducedNumerator", wrong, SimplexDesk::reducedNumerator);
        index(maker, "reducedDenominator", wrong, SimplexDesk::reducedDenominator);
        index(maker, "givenNumerator", wrong, SimplexDesk::givenNumerator);
        index(maker, "givenDenominator", wrong, SimplexDesk::givenDenominator);
        index(maker, "rayNumerator", wrong, SimplexDesk::rayNumerator);
        index(maker, "rayDenominator", wrong, SimplexDesk::rayDenominator);
    }

    private static void wrongColumnOfRow(Twins.Maker maker, int wrong) {
        index(maker, "pivot of the column", wrong, (desk, at) -> desk.pivot(0, at));
        index(maker, "entryNumerator of the column", wrong, (desk, at) -> desk.entryNumerator(0, at));
        index(maker, "entryDenominator of the column", wrong, (desk, at) -> desk.entryDenominator(0, at));
        index(maker, "whyNoPivot of the column", wrong, (desk, at) -> desk.whyNoPivot(0, at));
    }

    // "There is no such ..": in a problem of each size, the first and the last number are taken.
    private static void rightIndexes() {
        Check.begin("right indexes");
        for (int size = 0; size < 20; size++) {
            int variables = 1 + size % 4;
            int constraints = size / 4;
            Twins.Maker maker = () -> Twins.sized(variables, constraints);
            for (int number = 0; number < variables; number++) {
                takes(maker, number, (desk, at) -> desk.setProfit(at, 9) + desk.profitOf(at));
            }
            for (int number = 0; number < constraints; number++) {
                takes(maker, number, (desk, at) -> desk.setCoefficient(at, variables - 1, 0) + desk.coefficientOf(at, 0));
                takes(maker, number, (desk, at) -> desk.setBound(at, 99) + desk.boundOf(at));
                takes(maker, number, SimplexDesk::dropConstraint);
                takes(maker, number, (desk, at) -> desk.dualNumerator(at) + desk.dualDenominator(at));
                takes(maker, number, (desk, at) -> desk.dualNumeratorByEquations(at) + desk.dualDenominatorByEquations(at));
                takes(maker, number, (desk, at) -> desk.leastBound(at) + desk.greatestBound(at));
                takes(maker, number, (desk, at) -> desk.columnOf(at) + desk.whyNoPivot(at, 0));
                takes(maker, number, (desk, at) -> desk.entryNumerator(at, 0) + desk.entryDenominator(at, variables));
            }
            for (int number = 0; number < variables + constraints; number++) {
                takes(maker, number, (desk, at) -> desk.isNamed(at) ? 1 : 0);
                takes(maker, number, (desk, at) -> desk.reducedNumerator(at) + desk.reducedDenominator(at));
                takes(maker, number, (desk, at) -> desk.givenNumerator(at) + desk.givenDenominator(at));
                takes(maker, number, (desk, at) -> desk.rayNumerator(at) + desk.rayDenominator(at));
                if (constraints > 0) {
                    takes(maker, number, (desk, at) -> desk.whyNoPivot(constraints - 1, at) + desk.entryNumerator(0, at)
                            + desk.entryDenominator(constraints - 1, at));
                }
            }
        }
    }

    private static void takes(Twins.Maker maker, int number, Twins.At at) {
        String answer = Twins.answer(maker.make(), desk -> at.on(desk, number));
        Check.same(number + " is taken, and does not throw " + answer, answer.startsWith("java"), false);
    }

    private static void wrongNumbers(String name, Twins.Maker maker) {
        Check.begin("wrong numbers of " + name);
        Twins.range(maker, "setVariables", 1, 4, Twins.ARGUMENT, SimplexDesk::setVariables);
        Twins.range(maker, "setProfit", -9, 9, Twins.ARGUMENT, (desk, at) -> desk.setProfit(1, at));
        Twins.range(maker, "setCoefficient", -9, 9, Twins.ARGUMENT, (desk, at) -> desk.setCoefficient(0, 1, at));
        Twins.range(maker, "setBound", 0, 99, Twins.ARGUMENT, (desk, at) -> desk.setBound(0, at));
        Twins.range(maker, "setRule", 0, 2, Twins.ARGUMENT, SimplexDesk::setRule);
        Twins.range(SimplexDesk::new, "addConstraint", 0, 99, Twins.ARGUMENT, SimplexDesk::addConstraint);
        Twins.range(SimplexDesk::new, "append", 33, 126, Twins.ARGUMENT, SimplexDesk::append);
        Twins.range(() -> Check.desk(Twins.THREE), "solvedNumerator", 0, 99, Twins.ARGUMENT,
                (desk, at) -> desk.solvedNumerator(2, at));
        Twins.range(() -> Check.desk(Twins.THREE), "solvedDenominator", 0, 99, Twins.ARGUMENT,
                (desk, at) -> desk.solvedDenominator(2, at));
        for (int wrong : new int[] {-1, 100, Twins.LOW, Twins.HIGH}) {
            argument(maker, "addConstraint", wrong, SimplexDesk::addConstraint);
            argument(maker, "solvedNumerator", wrong, (desk, at) -> desk.solvedNumerator(0, at));
            argument(maker, "solvedDenominator", wrong, (desk, at) -> desk.solvedDenominator(0, at));
        }
        for (int wrong : new int[] {32, 127, 0, -1, 10, 65 + 256, 65 + 65536, Twins.LOW, Twins.HIGH}) {
            argument(maker, "append", wrong, SimplexDesk::append);
        }
    }

    private static void argument(Twins.Maker maker, String what, int wrong, Twins.At at) {
        Twins.refuses(maker, what + " of " + wrong, Twins.ARGUMENT, desk -> at.on(desk, wrong));
    }

    // The same number is right for the one index, and wrong for the other.
    private static void orderInCallsWithTwoIndexes() {
        Check.begin("two indexes");
        Twins.Maker wide = () -> Twins.sized(4, 1);
        Twins.Maker high = () -> Twins.sized(1, 4);
        Twins.refuses(wide, "setCoefficient(1, 3, 0)", Twins.INDEX, desk -> desk.setCoefficient(1, 3, 0));
        Twins.looks(wide, "coefficientOf(0, 3)", 0, desk -> desk.coefficientOf(0, 3));
        Twins.refuses(wide, "coefficientOf(1, 3)", Twins.INDEX, desk -> desk.coefficientOf(1, 3));
        Twins.refuses(high, "setCoefficient(3, 1, 0)", Twins.INDEX, desk -> desk.setCoefficient(3, 1, 0));
        Twins.looks(high, "coefficientOf(3, 0)", 0, desk -> desk.coefficientOf(3, 0));
        Twins.refuses(high, "coefficientOf(3, 1)", Twins.INDEX, desk -> desk.coefficientOf(3, 1));
        Twins.looks(wide, "entryNumerator(0, 4)", 1, desk -> desk.entryNumerator(0, 4));
        Twins.refuses(wide, "entryNumerator(4, 0)", Twins.INDEX, desk -> desk.entryNumerator(4, 0));
        Twins.refuses(wide, "pivot(4, 0)", Twins.INDEX, desk -> desk.pivot(4, 0));
        Twins.refuses(wide, "pivot(0, 5)", Twins.INDEX, desk -> desk.pivot(0, 5));
        Twins.refuses(wide, "whyNoPivot(0, 5)", Twins.INDEX, desk -> desk.whyNoPivot(0, 5));
    }

    // addConstraint: "if there are 4"; append: "if the buffer has 60 characters"; write: "more than 60 characters".
    private static void fullDesk() {
        Check.begin("a full desk");
        Twins.refuses(Twins::full, "addConstraint(0)", Twins.STATE, desk -> desk.addConstraint(0));
        Twins.refuses(Twins::full, "addConstraint(99)", Twins.STATE, desk -> desk.addConstraint(99));
        Twins.refuses(Twins::full, "append(33)", Twins.STATE, desk -> desk.append(33));
        Twins.refuses(Twins::full, "append(126)", Twins.STATE, desk -> desk.append(126));
        Twins.Maker cut = () -> {
            SimplexDesk desk = Twins.full();
            Check.enter(desk, Twins.FULL.substring(0, 57));
            return desk;
        };
        Twins.refuses(cut, "load", Twins.ARGUMENT, SimplexDesk::load);
        Twins.Maker longer = () -> {
            SimplexDesk desk = Twins.full();
            desk.setCoefficient(2, 0, -1);
            return desk;
        };
        Twins.refuses(longer, "write of 61 characters", Twins.STATE, SimplexDesk::write);
    }

    // pivot: "if it is not possible", for each of the four reasons.
    private static void pivotsRefused() {
        Check.begin("pivots that are not possible");
        Twins.Maker maker = () -> {
            SimplexDesk desk = Check.desk("v3;m3,-1,2;c1,1,-1<4;c1,3,0<4;c1,0,1<6");
            desk.keep();
            return desk;
        };
        int[][] reasons = {{0, 3, 1}, {2, 5, 1}, {0, 5, 1}, {0, 1, 2}, {2, 1, 2}, {0, 2, 3}, {1, 2, 3}, {2, 0, 4}};
        for (int[] cell : reasons) {
            String what = "pivot(" + cell[0] + ", " + cell[1] + ")";
            Twins.looks(maker, "whyNoPivot for " + what, cell[2], desk -> desk.whyNoPivot(cell[0], cell[1]));
            Twins.refuses(maker, what, Twins.STATE, desk -> desk.pivot(cell[0], cell[1]));
        }
        Twins.refuses(Twins::full, "pivot in the last row and column", Twins.STATE, desk -> desk.pivot(3, 7));
    }

    // step, nextColumn, nextRow: "if the basis is optimal".
    private static void optimalDesk() {
        Check.begin("an optimal desk");
        Twins.refuses(Twins::optimal, "step", Twins.STATE, SimplexDesk::step);
        Twins.refuses(Twins::optimal, "nextColumn", Twins.STATE, SimplexDesk::nextColumn);
        Twins.refuses(Twins::optimal, "nextRow", Twins.STATE, SimplexDesk::nextRow);
        Twins.refuses(SimplexDesk::new, "step of a new object", Twins.STATE, SimplexDesk::step);
        Twins.refuses(SimplexDesk::new, "nextColumn of a new object", Twins.STATE, SimplexDesk::nextColumn);
        Twins.refuses(SimplexDesk::new, "nextRow of a new object", Twins.STATE, SimplexDesk::nextRow);
    }

    // step, nextColumn, nextRow: ".. or has a ray", also if another column would have a row to pivot in.
    private static void rayDesk() {
        Check.begin("a desk with a ray");
        Twins.looks(() -> Check.desk(Twins.OPEN), "whyNoPivot(0, 1)", 0, desk -> desk.whyNoPivot(0, 1));
        for (Twins.Maker maker : new Twins.Maker[] {() -> Check.desk(Twins.OPEN), Twins::ray, () -> Twins.sized(1, 0)}) {
            Twins.refuses(maker, "step", Twins.STATE, SimplexDesk::step);
            Twins.refuses(maker, "nextColumn", Twins.STATE, SimplexDesk::nextColumn);
            Twins.refuses(maker, "nextRow", Twins.STATE, SimplexDesk::nextRow);
        }
    }

    // rayColumn, rayNumerator, rayDenominator: "if the basis has no ray".
    private static void noRay() {
        Check.begin("a desk without a ray");
        for (Twins.Maker maker : new Twins.Maker[] {SimplexDesk::new, () -> Twins.prepared(6), Twins::optimal, Twins::full}) {
            Twins.refuses(maker, "rayColumn", Twins.STATE, SimplexDesk::rayColumn);
            int last = maker.make().variables() + maker.make().constraints() - 1;
            for (int column : new int[] {0, last}) {
                Twins.refuses(maker, "rayNumerator", Twins.STATE, desk -> desk.rayNumerator(column));
                Twins.refuses(maker, "rayDenominator", Twins.STATE, desk -> desk.rayDenominator(column));
            }
        }
    }

    // undo: "if there is none".
    private static void nothingSaved() {
        Check.begin("no saved state");
        Twins.refuses(SimplexDesk::new, "undo of a new object", Twins.STATE, SimplexDesk::undo);
        Twins.refuses(() -> Twins.prepared(0), "undo with nothing saved", Twins.STATE, SimplexDesk::undo);
    }

    // restore: "if there is no snapshot".
    private static void noSnapshot() {
        Check.begin("no snapshot");
        Twins.refuses(SimplexDesk::new, "restore of a new object", Twins.STATE, SimplexDesk::restore);
        Twins.refuses(() -> Check.desk(Twins.FULL), "restore without a snapshot", Twins.STATE, SimplexDesk::restore);
    }

    // solvedNumerator, solvedDenominator: "if this basis would not be optimal".
    private static void solvedRefused() {
        Check.begin("no value that comes out");
        Twins.refuses(Twins::ray, "solvedNumerator, ray", Twins.STATE, desk -> desk.solvedNumerator(0, 0));
        Twins.refuses(Twins::ray, "solvedNumerator, ray", Twins.STATE, desk -> desk.solvedNumerator(0, 99));
        Twins.refuses(Twins::ray, "solvedDenominator, ray", Twins.STATE, desk -> desk.solvedDenominator(0, 0));
        Twins.refuses(Twins::ray, "solvedDenominator, ray", Twins.STATE, desk -> desk.solvedDenominator(0, 99));
        for (int wrong : new int[] {-1, 100}) {
            argument(Twins::ray, "solvedNumerator, ray,", wrong, (desk, at) -> desk.solvedNumerator(0, at));
            argument(Twins::ray, "solvedDenominator, ray,", wrong, (desk, at) -> desk.solvedDenominator(0, at));
        }
    }
}
