import java.io.DataInputStream;
import java.io.IOException;
import java.lang.management.ManagementFactory;
import java.lang.reflect.Constructor;
import java.lang.reflect.Field;
import java.lang.reflect.Method;
import java.lang.reflect.Modifier;
import java.nio.charset.StandardCharsets;
import java.nio.file.Files;
import java.nio.file.Path;
import java.util.ArrayList;
import java.util.Arrays;
import java.util.HashSet;
import java.util.List;
import java.util.Set;
import java.util.TreeSet;
import java.util.regex.Matcher;
import java.util.regex.Pattern;
import java.util.stream.Collectors;

/** Rules of ../shared/LANGUAGE.md that can be told from the class, its source and a run. */
public final class LanguageTest {
    private static final Path DOC = Path.of("../shared/DOC.md");
    private static final Path SOURCE = Path.of("src/main/java/SimplexDesk.java");
    // What rule 4 lists, and what the compiler adds for enums, records and boxes; each with its descriptor.
    private static final Pattern LIBRARY = Pattern.compile("java/lang/(?:(?:Object|Record|Enum)\\.<init>.*"
            + "|String\\.(?:<init>\\(\\[C\\)V|(?:length|charAt|isEmpty|equals|indexOf|substring|toCharArray)\\(.*)"
            + "|StringBuilder\\.(?:<init>|append\\((?:C|Ljava/lang/String;|I)\\)|charAt|setCharAt|setLength|deleteCharAt"
            + "|reverse|length|toString).*"
            + "|(?:Integer|Long|Math)\\.\\w+(?<!Exact|random)\\([IJ]*\\)[IJ]|Integer\\.(?:valueOf\\(I\\)|intValue).*"
            + "|Enum\\.(?:valueOf|ordinal)\\(.*|Iterable\\.iterator.*|Comparable\\.compareTo.*"
            + "|System\\.arraycopy.*|runtime/ObjectMethods\\.bootstrap.*"
            + "|(?:IllegalState|IllegalArgument|IndexOutOfBounds|Arithmetic|UnsupportedOperation|Runtime)Exception"
            + "\\.<init>\\((?:Ljava/lang/String;)?\\)V)"
            + "|java/util/(?:NoSuchElementException\\.<init>\\((?:Ljava/lang/String;)?\\)V"
            + "|(?:Array)?List\\.(?:<init>|add|get|set|remove|size|isEmpty|clear|iterator|of)\\(.*"
            + "|Iterator\\.(?:hasNext|next).*|Arrays\\.(?:copyOf|copyOfRange|fill)\\(.*|Objects\\.requireNonNull.*)"
            + "|\\[.*\\.clone\\(.*");
    private static final Set<Class<?>> CONSTANTS = Set.of(int.class, long.class, boolean.class, char.class, String.class,
            int[].class, long[].class, char[].class, byte[].class);
    private static final String IMPORTS = "java\\.util\\.(?:ArrayList|List|Iterator|Arrays|NoSuchElementException);";
    private static final String CAUGHT = "(?:IllegalState|IllegalArgument|IndexOutOfBounds|Arithmetic|UnsupportedOperation"
            + "|NoSuchElement|Runtime)Exception ";
    // The room of one run: 600,000 objects of 16 bytes at least, and 7,300,000 fields and elements of up to 8 bytes.
    private static final long ROOM = 600_000 * 16 + 7_300_000 * 4;

    private LanguageTest() {
    }

    public static void main(String[] args) throws IOException {
        face();
        insideClasses();
        library();
        words();
        allocations();
        Check.end("LanguageTest");
    }

    // Rule 1: the document's face with its throws clauses, and nothing else that is not private.
    private static void face() throws IOException {
        Check.begin("the face");
        Set<String> due = new TreeSet<>();
        Matcher matcher = Pattern.compile("(?m)^    public (.*);$").matcher(Files.readString(DOC));
        while (matcher.find()) {
            due.add(matcher.group(1).replaceAll("(int|long) \\w+(?=[,)])", "$1"));
        }
        Set<String> got = new TreeSet<>();
        for (Constructor<?> constructor : SimplexDesk.class.getDeclaredConstructors()) {
            got.add("SimplexDesk(" + types(constructor.getParameterTypes()) + ")" + thrown(constructor.getExceptionTypes()));
        }
        for (Method method : SimplexDesk.class.getDeclaredMethods()) {
            if (Modifier.isPublic(method.getModifiers())) {
                got.add(method.getReturnType().getSimpleName() + " " + method.getName() + "("
                        + types(method.getParameterTypes()) + ")" + thrown(method.getExceptionTypes()));
            } else if (!Modifier.isPrivate(method.getModifiers())) {
                Check.fault(method + " is neither public nor private");
            }
        }
        if (due.size() != 65 || !got.equals(due)) {
            Check.fault("the face is " + got + ", due is " + due);
        }
        for (Field field : SimplexDesk.class.getDeclaredFields()) {
            Check.same("private " + field, Modifier.isPrivate(field.getModifiers()), true);
        }
        Check.same("public and final", SimplexDesk.class.getModifiers(), Modifier.PUBLIC | Modifier.FINAL);
    }

    private static String types(Class<?>[] types) {
        return Arrays.stream(types).map(Class::getSimpleName).collect(Collectors.joining(", "));
    }

    private static String thrown(Class<?>[] types) {
        return types.length == 0 ? "" : " throws " + types(types);
    }

    private static List<Class<?>> classes() {
        List<Class<?>> classes = new ArrayList<>(List.of(SimplexDesk.class.getDeclaredClasses()));
        classes.add(0, SimplexDesk.class);
        return classes;
    }

    // Rules 1, 2, 3, 5 and 11: names, static fields, sizes.
    private static void insideClasses() {
        Check.begin("the classes");
        Check.same("at most twelve classes", classes().size() <= 12, true);
        Set<String> names = new HashSet<>();
        for (Method method : SimplexDesk.class.getDeclaredMethods()) {
            if (Modifier.isPublic(method.getModifiers())) {
                names.add(method.getName());
            }
        }
        for (Class<?> type : classes()) {
            boolean inside = type != SimplexDesk.class;
            Check.same(type + " is neither public nor protected", inside
                    && (type.getModifiers() & (Modifier.PUBLIC | Modifier.PROTECTED)) != 0, false);
            int fields = 0;
            for (Field field : type.getDeclaredFields()) {
                boolean constant = Modifier.isStatic(field.getModifiers());
                fields += constant ? 0 : 1;
                boolean own = type.isEnum() || field.getType().isArray() && field.getType().getComponentType().isEnum();
                Check.same(field + " is constant", !constant || Modifier.isFinal(field.getModifiers())
                        && (own || CONSTANTS.contains(field.getType())), true);
            }
            Check.same(type + " has at most twenty fields", fields <= 20, true);
            for (Method method : type.getDeclaredMethods()) {
                Check.same(method + " has at most seven parameters", method.getParameterCount() <= 7, true);
                Check.same(method + " has a name of its own", Modifier.isPrivate(method.getModifiers())
                        && names.contains(method.getName()), false);
            }
        }
    }

    // Rule 4: every method of the library that the class files name is one of the list.
    private static void library() throws IOException {
        Check.begin("the library");
        for (Class<?> type : classes()) {
            String file = type.getName() + ".class";
            try (DataInputStream in = new DataInputStream(SimplexDesk.class.getResourceAsStream(file))) {
                for (String name : methodsOf(in)) {
                    boolean own = name.startsWith("SimplexDesk");
                    Check.same(name + " is of the library", own || LIBRARY.matcher(name).matches(), true);
                }
            }
        }
    }

    // Reads the pool of constants of a class file, as the virtual machine's specification lays it out.
    private static Set<String> methodsOf(DataInputStream in) throws IOException {
        in.readInt();
        in.readInt();
        int size = in.readUnsignedShort();
        String[] texts = new String[size];
        int[][] pairs = new int[size][2];
        boolean[] isMethod = new boolean[size];
        for (int index = 1; index < size; index++) {
            int tag = in.readUnsignedByte();
            if (tag == 1) {
                texts[index] = in.readUTF();
            } else if (tag == 5 || tag == 6) {
                in.readLong();
                index++;
            } else if (tag == 7 || tag == 8 || tag == 16 || tag == 19 || tag == 20) {
                pairs[index][0] = in.readUnsignedShort();
            } else if (tag == 15) {
                in.readUnsignedByte();
                in.readUnsignedShort();
            } else {
                pairs[index][0] = in.readUnsignedShort();
                pairs[index][1] = in.readUnsignedShort();
                isMethod[index] = tag == 10 || tag == 11;
            }
        }
        Set<String> names = new TreeSet<>();
        for (int index = 1; index < size; index++) {
            if (isMethod[index]) {
                int[] nameAndType = pairs[pairs[index][1]];
                names.add(texts[pairs[pairs[index][0]][0]] + "." + texts[nameAndType[0]] + texts[nameAndType[1]]);
            }
        }
        return names;
    }

    // Rules 1, 2, 4, 6 and 9: words that the source must not have, comments aside; rule 11: short methods.
    private static void words() throws IOException {
        Check.begin("the source");
        byte[] bytes = Files.readAllBytes(SOURCE);
        for (byte sign : bytes) {
            Check.same("a sign of 1 to 127", sign > 0, true);
        }
        String source = new String(bytes, StandardCharsets.US_ASCII).replaceAll("(?s)/\\*.*?\\*/", "").replaceAll("//.*", "");
        String withoutCases = source.replaceAll("\\b(?:case [^;{}]*?|default )->", "");
        for (String word : new String[] {"->", "::", "\\bimport (?!" + IMPORTS + ")", "\\bpackage\\b",
            "\\bcatch \\((?!" + CAUGHT + ")", "\\bfinally\\b", "\\bsynchronized\\b", "\\bassert\\b", "Exact\\b",
            "\\bgetMessage\\b", "\\bDouble\\b", "\\bFloat\\b", "\\bwhile \\(true\\)", "\\bfor \\(;;\\)", "\\btry \\("}) {
            Check.same("the source has " + word, Pattern.compile(word).matcher(withoutCases).find(), false);
        }
        Matcher method = Pattern.compile("(?m)^( +)[^ ].*\\(.*\\).*\\{\n(?:(?:\\1 .*)?\n)*\\1\\}").matcher(source);
        while (method.find()) {
            Check.same("a short method: " + method.group().lines().findFirst().get(), method.group().lines().count() <= 60, true);
        }
    }

    // Rule 12: what the dearest calls of a run make stays within the room.
    private static void allocations() {
        Check.begin("the room");
        com.sun.management.ThreadMXBean threads = (com.sun.management.ThreadMXBean) ManagementFactory.getThreadMXBean();
        long thread = Thread.currentThread().getId();
        for (int warm = 0; warm < 8; warm++) {
            SimplexDesk desk = Check.desk("v4;m3,1,2,4;c1,2,3,4<50;c4,3,2,1<60;c1,0,1,0<9");
            long before = threads.getThreadAllocatedBytes(thread);
            for (int call = 0; call < 60; call++) {
                desk.digest();
                desk.solve();
                desk.write();
                desk.load();
                desk.keep();
                desk.restore();
                desk.undo();
            }
            long bytes = threads.getThreadAllocatedBytes(thread) - before;
            Check.same("the bytes of 420 calls, " + bytes + ", are few", warm == 0 || bytes < ROOM, true);
        }
    }
}
