import java.lang.reflect.InvocationTargetException;
import java.lang.reflect.Method;
import java.lang.reflect.Modifier;
import java.util.ArrayList;
import java.util.Comparator;
import java.util.List;
import java.util.Random;

/**
 * Runs of calls chosen by a seeded generator, on a desk and on the reference: every answer must be the same, and after
 * every call the digests. Most arguments are in range, some just outside, a few far outside.
 */
public final class RandomRunsTest {
    private static final int RUNS = 700;
    // What an object answers after so many calls is free.
    private static final int MOST_CALLS = 512;
    private static final int[] FAR = {Integer.MIN_VALUE, Integer.MAX_VALUE, -1000, 1000, Integer.MIN_VALUE + 4};
    private static final String[] CHANGES = {"setVariables", "setProfit", "setProfit", "addConstraint", "addConstraint",
        "setCoefficient", "setCoefficient", "setCoefficient", "setBound", "dropConstraint", "begin", "pivot", "pivot",
        "pivot", "pivot", "step", "step", "step", "solve", "setRule", "append", "clearBuffer", "load", "write", "undo",
        "undo", "keep", "restore"};

    private final Random random;
    private final SimplexDesk desk = new SimplexDesk();
    private final ReferenceDesk reference = new ReferenceDesk();
    private final StringBuilder story = new StringBuilder();
    private final boolean degenerate;
    private int calls;

    private RandomRunsTest(long seed) {
        random = new Random(seed);
        degenerate = seed % 3 == 0;
    }

    public static void main(String[] args) throws Exception {
        int runs = args.length > 0 ? Integer.parseInt(args[0]) : RUNS;
        for (long seed = 0; seed < runs; seed++) {
            RandomRunsTest run = new RandomRunsTest(seed);
            String fault = run.go();
            if (fault != null) {
                System.out.println("seed " + seed + ": " + fault + "\n" + run.story);
                System.exit(1);
            }
        }
        System.out.println("RandomRunsTest: " + runs + " runs are as the reference says");
    }

    private String go() throws Exception {
        if (random.nextInt(4) > 0) {
            String fault = enter(randomText());
            if (fault != null) {
                return fault;
            }
        }
        int changes = 20 + random.nextInt(40);
        for (int change = 0; change < changes; change++) {
            String fault = random.nextInt(6) == 0 ? enter(randomText()) : change();
            if (fault == null) {
                fault = looks();
            }
            if (fault != null) {
                return fault;
            }
        }
        return null;
    }

    private String change() throws Exception {
        Method method = byName(CHANGES[random.nextInt(CHANGES.length)]);
        return compare(method, arguments(method));
    }

    private String looks() throws Exception {
        List<Method> methods = methods();
        for (int look = 0; look < 12; look++) {
            Method method = methods.get(random.nextInt(methods.size()));
            boolean changes = List.of(CHANGES).contains(method.getName());
            String fault = changes ? null : compare(method, arguments(method));
            if (fault != null) {
                return fault;
            }
        }
        return compare(byName("digest"));
    }

    private String enter(String text) throws Exception {
        String fault = compare(byName("clearBuffer"));
        for (int index = 0; index < text.length() && fault == null; index++) {
            fault = compare(byName("append"), (int) text.charAt(index));
        }
        fault = fault == null ? compare(byName("firstError")) : fault;
        fault = fault == null ? compare(byName("load")) : fault;
        return fault == null ? compare(byName("digest")) : fault;
    }

    // Most texts are right; the others have a character more, less or changed, or are cut off.
    private String randomText() {
        int variables = 1 + random.nextInt(4);
        StringBuilder text = new StringBuilder("v" + variables + ";m" + factors(variables));
        int constraints = random.nextInt(5);
        for (int constraint = 0; constraint < constraints; constraint++) {
            text.append(";c").append(factors(variables)).append('<').append(bound());
        }
        if (random.nextInt(20) == 0) {
            text.append(";c").append(factors(variables)).append("<5");
        }
        int place = random.nextInt(text.length());
        int kind = random.nextInt(12);
        String signs = "v;mc<,-0123456789!~xV:";
        char sign = signs.charAt(random.nextInt(signs.length()));
        if (kind == 0) {
            text.setCharAt(place, sign);
        } else if (kind == 1) {
            text.insert(place, sign);
        } else if (kind == 2) {
            text.deleteCharAt(place);
        } else if (kind == 3) {
            text.setLength(place);
        } else if (kind == 4) {
            text.append(sign);
        }
        return text.toString();
    }

    private String factors(int many) {
        StringBuilder text = new StringBuilder();
        for (int index = 0; index < many; index++) {
            text.append(index == 0 ? "" : ",").append(factor());
        }
        return text.toString();
    }

    private int factor() {
        int size = random.nextInt(3) == 0 ? 2 : 9;
        return random.nextInt(2 * size + 1) - (random.nextInt(3) == 0 ? size : size / 2);
    }

    private int bound() {
        return degenerate && random.nextInt(3) > 0 ? random.nextInt(3) : random.nextInt(100);
    }

    private Object[] arguments(Method method) {
        Object[] arguments = new Object[method.getParameterCount()];
        for (int index = 0; index < arguments.length; index++) {
            arguments[index] = argument(method.getName(), index);
        }
        return arguments;
    }

    private int argument(String name, int index) {
        int kind = random.nextInt(40);
        if (kind == 0) {
            return FAR[random.nextInt(FAR.length)];
        }
        boolean outside = kind < 4;
        if (name.equals("append")) {
            return outside ? 31 + random.nextInt(3) + 94 * random.nextInt(2) : 33 + random.nextInt(94);
        }
        if (name.equals("setRule")) {
            return random.nextInt(3) + (outside ? 3 * random.nextInt(3) - 3 : 0);
        }
        if (name.equals("setVariables")) {
            return random.nextInt(6);
        }
        boolean isBound = name.equals("addConstraint") || index == 1 && (name.equals("setBound") || name.startsWith("solved"));
        if (isBound) {
            return outside ? 98 + random.nextInt(4) - 100 * random.nextInt(2) : bound();
        }
        boolean isFactor = name.equals("setProfit") && index == 1 || name.equals("setCoefficient") && index == 2;
        if (isFactor) {
            return outside ? 8 + random.nextInt(4) - 19 * random.nextInt(2) : Math.max(-9, Math.min(9, factor()));
        }
        boolean isColumn = index == 1 || name.startsWith("reduced") || name.startsWith("given") || name.startsWith("ray")
                || name.equals("isNamed");
        int many = isColumn ? reference.variables() + reference.constraints()
                : name.contains("rofit") ? reference.variables() : reference.constraints();
        return outside || many == 0 ? random.nextInt(many + 3) - 1 : random.nextInt(many);
    }

    private String compare(Method method, Object... arguments) throws Exception {
        if (calls == MOST_CALLS) {
            return null;
        }
        calls++;
        String got = answer(desk, method, arguments);
        String due = answer(reference, ReferenceDesk.class.getMethod(method.getName(), method.getParameterTypes()), arguments);
        story.append(method.getName()).append(List.of(arguments)).append(" -> ").append(got).append('\n');
        return got.equals(due) ? null : method.getName() + " answered " + got + ", due is " + due;
    }

    private static String answer(Object desk, Method method, Object... arguments) throws Exception {
        try {
            return String.valueOf(method.invoke(desk, arguments));
        } catch (InvocationTargetException e) {
            return "throws " + e.getCause().getClass().getName();
        }
    }

    private static List<Method> methods() {
        List<Method> methods = new ArrayList<>();
        for (Method method : SimplexDesk.class.getDeclaredMethods()) {
            if (Modifier.isPublic(method.getModifiers())) {
                methods.add(method);
            }
        }
        methods.sort(Comparator.comparing(Method::getName));
        return methods;
    }

    private static Method byName(String name) {
        return methods().stream().filter(method -> method.getName().equals(name)).findFirst().get();
    }
}
