/** What the tests of single promises share: counting faults, refusals that change nothing, desks from texts. */
final class Check {
    interface Call {
        long go();
    }

    private static int wrong = 0;
    private static String part = "";

    private Check() {
    }

    static void begin(String name) {
        part = name;
    }

    static void end(String name) {
        System.out.println(name + ": " + (wrong == 0 ? "all is as promised" : wrong + " answers are wrong"));
        if (wrong > 0) {
            System.exit(1);
        }
    }

    static void fault(String text) {
        wrong++;
        System.out.println(part + ": " + text);
    }

    static void same(String what, long got, long due) {
        if (got != due) {
            fault(what + " answered " + got + ", due is " + due);
        }
    }

    static void same(String what, boolean got, boolean due) {
        if (got != due) {
            fault(what + " answered " + got + ", due is " + due);
        }
    }

    static void text(String what, String got, String due) {
        if (!got.equals(due)) {
            fault(what + " answered " + got + ", due is " + due);
        }
    }

    static void fraction(String what, long numerator, long denominator, String due) {
        text(what, numerator + "/" + denominator, due);
    }

    /** The call throws exactly this exception, and changes nothing: not the digest, not what undo brings back. */
    static void refuses(SimplexDesk desk, String what, Class<?> due, Call call) {
        long before = desk.digest();
        String got = "nothing";
        try {
            call.go();
        } catch (RuntimeException e) {
            got = e.getClass().getName();
        }
        if (!got.equals(due.getName())) {
            fault(what + " threw " + got + ", due is " + due.getName());
        }
        if (desk.digest() != before) {
            fault(what + " threw and changed something");
        }
    }

    static void refusesIndex(SimplexDesk desk, String what, Call call) {
        refuses(desk, what, IndexOutOfBoundsException.class, call);
    }

    static void refusesArgument(SimplexDesk desk, String what, Call call) {
        refuses(desk, what, IllegalArgumentException.class, call);
    }

    static void refusesState(SimplexDesk desk, String what, Call call) {
        refuses(desk, what, IllegalStateException.class, call);
    }

    /** The call answers, changes nothing that the digest tells, and saves no state. */
    static void looks(SimplexDesk desk, String what, Call call) {
        long before = desk.digest();
        call.go();
        if (desk.digest() != before) {
            fault(what + " changed something");
        }
    }

    /** The call saves one state, and undo brings back the digest from before it. */
    static void undoable(SimplexDesk desk, String what, long due, Call call) {
        int states = desk.savedStates();
        long before = desk.digest();
        same(what, call.go(), due);
        same(what + ", saved states", desk.savedStates(), Math.min(6, states + 1));
        if (states < 6) {
            long after = desk.digest();
            desk.keep();
            same(what + ", undo", desk.undo(), states);
            same(what + ", digest after undo", desk.digest(), before);
            desk.restore();
            same(what + ", digest after restore", desk.digest(), after);
        }
    }

    static void enter(SimplexDesk desk, String text) {
        desk.clearBuffer();
        for (int index = 0; index < text.length(); index++) {
            desk.append(text.charAt(index));
        }
    }

    static SimplexDesk desk(String text) {
        SimplexDesk desk = new SimplexDesk();
        enter(desk, text);
        desk.load();
        return desk;
    }

    static SimplexDesk desk(String text, int rule) {
        SimplexDesk desk = desk(text);
        desk.setRule(rule);
        return desk;
    }
}
