import java.io.IOException;
import java.lang.reflect.Constructor;
import java.lang.reflect.Field;
import java.lang.reflect.Method;
import java.lang.reflect.Modifier;
import java.nio.file.Files;
import java.nio.file.Path;
import java.util.Arrays;
import java.util.Set;
import java.util.TreeSet;
import java.util.stream.Collectors;

/** The face of the class, and the rules of LANGUAGE.md that a look at the class or its text can tell. */
public final class FaceTest {
    private static final String INDEX = "IndexOutOfBoundsException";
    private static final String ARGUMENT = "IllegalArgumentException";
    private static final String STATE = "IllegalStateException";
    private static final String I = " throws " + INDEX;
    private static final String A = " throws " + ARGUMENT;
    private static final String I_A = I + ", " + ARGUMENT;
    private static final String I_S = I + ", " + STATE;
    private static final String I_A_S = I_A + ", " + STATE;

    private static final String[] METHODS = {
        "int ship(int, int, int, int, int, int)" + I_A_S, "int fill(int, int)" + I_A_S,
        "int crew(int, int, int)" + I_A_S, "int hours(int, int)" + I_A, "int depth(int, int)" + I_A,
        "void hinder(int, int, int, int)" + I_A, "void bus(int, int, int)" + I_A, "int reside(int, int)" + I,
        "int plan(int, int, int, int)" + I_A_S, "int cancel(int)" + I_S, "int replace(int, int)" + I_S,
        "int pass(int)" + A + ", " + STATE, "int now()", "int state(int)" + I, "int ends(int)" + I,
        "int busAfter(int)" + I, "int place(int)" + I, "int placeByLine(int, int)" + I_A, "int fuel(int)" + I,
        "int book(int, int, int, int, int, boolean)" + I_A_S, "int sailingOf(int)" + I, "int lane(int)" + I,
        "int paid(int)" + I, "int taken(int)" + I, "int list(int)" + I + ", NoSuchElementException",
        "long account(int)" + A, "long accountAnew(int)" + A};
    private static final String[] CONSTANTS = {"NONE -1", "PLANNED 0", "CANCELLED 1", "SAILED 2", "WALKER 0", "CAR 1",
        "VAN 2", "TRUCK 3", "FARES 0", "STATE 1", "FUEL 2"};

    public static void main(String[] args) throws IOException, IllegalAccessException {
        methods();
        constants();
        constructor();
        insides();
        text(Files.readString(Path.of(args[0])));
        Check.end();
    }

    private static boolean isOpen(int modifiers) {
        return !Modifier.isPrivate(modifiers);
    }

    private static String names(Class<?>[] types) {
        return Arrays.stream(types).map(Class::getSimpleName).collect(Collectors.joining(", "));
    }

    private static void methods() {
        Set<String> got = new TreeSet<>();
        Set<String> names = new TreeSet<>();
        for (Method m : ArchipelagoFerries.class.getDeclaredMethods()) {
            if (isOpen(m.getModifiers())) {
                String thrown = names(m.getExceptionTypes());
                names.add(m.getName());
                got.add(m.getReturnType().getSimpleName() + " " + m.getName() + "(" + names(m.getParameterTypes()) + ")"
                    + (thrown.isEmpty() ? "" : " throws " + thrown));
                Check.same("public " + m, Modifier.toString(m.getModifiers()), "public");
            }
        }
        Check.same("methods", got.toString(), new TreeSet<>(Arrays.asList(METHODS)).toString());
        Set<String> hidden = hiddenNames();
        hidden.retainAll(names);
        Check.same("private methods with public names", hidden.toString(), "[]");
    }

    private static Set<String> hiddenNames() {
        Set<String> hidden = new TreeSet<>();
        for (Method m : ArchipelagoFerries.class.getDeclaredMethods()) {
            if (!isOpen(m.getModifiers())) {
                hidden.add(m.getName());
            }
        }
        for (Class<?> inside : ArchipelagoFerries.class.getDeclaredClasses()) {
            for (Method m : inside.getDeclaredMethods()) {
                hidden.add(m.getName());
            }
        }
        return hidden;
    }

    private static void constants() throws IllegalAccessException {
        Set<String> got = new TreeSet<>();
        for (Field f : ArchipelagoFerries.class.getDeclaredFields()) {
            if (isOpen(f.getModifiers())) {
                Check.same(f.getName(), Modifier.toString(f.getModifiers()), "public static final");
                got.add(f.getName() + " " + f.getInt(null));
            }
            if (Modifier.isStatic(f.getModifiers())) {
                Check.same("static " + f, Boolean.toString(Modifier.isFinal(f.getModifiers())), "true");
            }
        }
        Check.same("constants", got.toString(), new TreeSet<>(Arrays.asList(CONSTANTS)).toString());
    }

    private static void constructor() {
        Constructor<?>[] all = ArchipelagoFerries.class.getDeclaredConstructors();
        Check.same("constructors", all.length + " " + all[0], "1 public ArchipelagoFerries()");
        Check.same("class", Modifier.toString(ArchipelagoFerries.class.getModifiers()), "public final");
    }

    private static void insides() {
        Class<?>[] insides = ArchipelagoFerries.class.getDeclaredClasses();
        Check.same("some twelve classes", Boolean.toString(insides.length <= 12), "true");
        for (Class<?> inside : insides) {
            int m = inside.getModifiers();
            boolean isFine = Modifier.isStatic(m) && !Modifier.isPublic(m) && !Modifier.isProtected(m);
            Check.same("inside " + inside, Boolean.toString(isFine), "true");
            Check.same("fields of " + inside, Boolean.toString(inside.getDeclaredFields().length <= 20), "true");
        }
    }

    /** Words that the language rules leave out, and that the program has no need of. */
    private static void text(String program) {
        String[] ruledOut = {"->", "::", "catch", "try ", "finally", "synchronized", "assert", "instanceof", "record ",
            "static {", "Exact(", "Math.random", "System.", "Thread", "import java.io", "@", "Object", "equals(", "toString",
            "hashCode", "package "};
        for (String word : ruledOut) {
            Check.same("'" + word + "' in the program", Boolean.toString(program.contains(word)), "false");
        }
        long imports = program.lines().filter(line -> line.startsWith("import ")).count();
        Check.same("imports", Long.toString(imports), "1");
        boolean isPlain = program.chars().allMatch(c -> c == '\n' || c >= 32 && c < 127);
        Check.same("plain signs", Boolean.toString(isPlain), "true");
    }
}
