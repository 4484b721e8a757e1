/**
 * Desks in the states that the tests of edges need, and two desks made alike: what a call does to the one is told by
 * holding it against the other, to the last saved state and the snapshot.
 */
final class Twins {
    interface Maker {
        SimplexDesk make();
    }

    interface Use {
        long on(SimplexDesk desk);
    }

    interface At {
        long on(SimplexDesk desk, int number);
    }

    static final int LOW = Integer.MIN_VALUE;
    static final int HIGH = Integer.MAX_VALUE;
    /** Optimal at 13 after two pivots by each rule. */
    static final String THREE = "v3;m5,4,3;c2,3,1<5;c4,1,2<11;c3,4,2<8";
    /** 60 characters, 4 variables, 4 constraints. */
    static final String FULL = "v4;m3,1,2,4;c1,2,3,4<50;c4,3,2,1<60;c1,0,1,0<90;c-1,2,0,5<70";
    /** The column 0 is a ray from the start, while a pivot in the row 0 and the column 1 is possible. */
    static final String OPEN = "v2;m1,1;c-3,2<3";
    private static final String[] CYCLE = {"2,0,8,4", "-7,3,3,-6", "-1,1,7,1", "6,-6,-9,7", "2,-1,3,3"};
    static final Class<?> INDEX = IndexOutOfBoundsException.class;
    static final Class<?> ARGUMENT = IllegalArgumentException.class;
    static final Class<?> STATE = IllegalStateException.class;

    private Twins() {
    }

    /** Leaves no saved state, and all else as it is: six states push out the older ones. */
    static void forget(SimplexDesk desk) {
        for (int made = 0; made < 6; made++) {
            desk.setRule(desk.rule());
        }
        while (desk.savedStates() > 0) {
            desk.undo();
        }
    }

    /** A desk neither optimal nor with a ray, with as many saved states, all unlike, and a snapshot unlike them. */
    static SimplexDesk prepared(int states) {
        SimplexDesk desk = Check.desk(THREE, 2);
        desk.solve();
        desk.keep();
        desk.setRule(1);
        desk.begin();
        desk.step();
        forget(desk);
        for (int made = 1; made <= states; made++) {
            if (made == 6) {
                desk.step();
            } else {
                desk.setProfit(2, 9 - made);
            }
        }
        Check.enter(desk, "v2;m3,2;c1,1<4;c1,3<6");
        return desk;
    }

    /** All is full: 4 variables, 4 constraints, 6 saved states, 60 characters. */
    static SimplexDesk full() {
        SimplexDesk desk = Check.desk(FULL, 1);
        desk.keep();
        desk.write();
        for (int profit = 2; profit < 7; profit++) {
            desk.setProfit(3, profit);
        }
        desk.step();
        return desk;
    }

    static SimplexDesk optimal() {
        SimplexDesk desk = prepared(6);
        desk.solve();
        return desk;
    }

    static SimplexDesk ray() {
        SimplexDesk desk = Check.desk(OPEN);
        desk.keep();
        desk.pivot(0, 1);
        return desk;
    }

    /** A desk of a size, with coefficients 0: the column 0 is a ray. */
    static SimplexDesk sized(int variables, int constraints) {
        SimplexDesk desk = new SimplexDesk();
        desk.setVariables(variables);
        for (int constraint = 0; constraint < constraints; constraint++) {
            desk.addConstraint(10 * constraint + 9);
        }
        desk.setProfit(0, 1);
        return desk;
    }

    /** By the rule 1 its pivots go round without an end; all bounds are 0. No saved state. */
    static SimplexDesk cycle(int rule) {
        SimplexDesk desk = new SimplexDesk();
        desk.setVariables(4);
        for (int row = 0; row < CYCLE.length; row++) {
            String[] factors = CYCLE[row].split(",");
            if (row > 0) {
                desk.addConstraint(0);
            }
            for (int variable = 0; variable < 4; variable++) {
                int factor = Integer.parseInt(factors[variable]);
                if (row == 0) {
                    desk.setProfit(variable, factor);
                } else {
                    desk.setCoefficient(row - 1, variable, factor);
                }
            }
        }
        desk.setRule(rule);
        forget(desk);
        return desk;
    }

    /** The problem, the rule, the basis and the counts: all that a saved state holds. */
    static String state(SimplexDesk desk) {
        int variables = desk.variables();
        int constraints = desk.constraints();
        StringBuilder text = new StringBuilder("rule " + desk.rule() + ", pivots " + desk.pivots() + " of "
                + desk.allPivots() + ", idle " + desk.idlePivots() + ", profits");
        for (int variable = 0; variable < variables; variable++) {
            text.append(' ').append(desk.profitOf(variable));
        }
        for (int constraint = 0; constraint < constraints; constraint++) {
            text.append("; row of ").append(desk.columnOf(constraint)).append(':');
            for (int variable = 0; variable < variables; variable++) {
                text.append(' ').append(desk.coefficientOf(constraint, variable));
            }
            text.append(" < ").append(desk.boundOf(constraint));
        }
        return text.toString();
    }

    static String answer(SimplexDesk desk, Use use) {
        try {
            return String.valueOf(use.on(desk));
        } catch (RuntimeException e) {
            return e.getClass().getName();
        }
    }

    /** Holds two desks against one another, in all that they have; both are spent by it. */
    static void alike(String what, SimplexDesk got, SimplexDesk due) {
        Check.text(what + ": the state", state(got), state(due));
        Check.same(what + ": the digest", got.digest(), due.digest());
        Check.same(what + ": the length of the buffer", got.clearBuffer(), due.clearBuffer());
        Check.same(what + ": the saved states", got.savedStates(), due.savedStates());
        for (int left = due.savedStates(); left > 0; left--) {
            Check.text(what + ": undo", answer(got, SimplexDesk::undo), answer(due, SimplexDesk::undo));
            Check.text(what + ": the state after undo", state(got), state(due));
        }
        Check.text(what + ": restore", answer(got, SimplexDesk::restore), answer(due, SimplexDesk::restore));
        Check.text(what + ": the snapshot", state(got), state(due));
    }

    /** The call throws exactly this exception, and changes nothing. */
    static void refuses(Maker maker, String what, Class<?> due, Use use) {
        SimplexDesk desk = maker.make();
        Check.text(what, answer(desk, use), due.getName());
        alike(what + " changes nothing", desk, maker.make());
    }

    /** The call answers, and changes nothing. */
    static void looks(Maker maker, String what, long due, Use use) {
        SimplexDesk desk = maker.make();
        Check.text(what, answer(desk, use), String.valueOf(due));
        alike(what + " changes nothing", desk, maker.make());
    }

    /** The call takes every number of low to high, and refuses those just outside, and the farthest. */
    static void range(Maker maker, String what, int low, int high, Class<?> due, At at) {
        for (int number = low; number <= high; number++) {
            int taken = number;
            String answer = answer(maker.make(), desk -> at.on(desk, taken));
            Check.same(what + " takes " + number + ", and does not throw " + answer, answer.startsWith("java"), false);
        }
        for (int number : new int[] {low - 1, high + 1, LOW, HIGH}) {
            refuses(maker, what + " of " + number, due, desk -> at.on(desk, number));
        }
    }

    /** The call answers, saves exactly the state from before it, and lets the oldest of six states go. */
    static void undoable(int states, String what, long due, Use use) {
        SimplexDesk desk = prepared(states);
        SimplexDesk twin = prepared(states);
        String part = what + " with " + states + " saved states";
        Check.text(part, answer(desk, use), String.valueOf(due));
        Check.same(part + ": saved states", desk.savedStates(), Math.min(6, states + 1));
        Check.same(part + ": undo", desk.undo(), Math.min(5, states));
        Check.text(part + ": the state after undo", state(desk), state(twin));
        for (int left = Math.min(5, states) - 1; left >= 0; left--) {
            Check.same(part + ": undo further", desk.undo(), left);
            twin.undo();
            Check.text(part + ": the state after undo further", state(desk), state(twin));
        }
        Check.text(part + ": undo of the oldest", answer(desk, SimplexDesk::undo), STATE.getName());
    }
}
