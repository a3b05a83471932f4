import java.io.IOException;
import java.lang.reflect.Constructor;
import java.lang.reflect.Field;
import java.lang.reflect.Method;
import java.lang.reflect.Modifier;
import java.nio.file.Files;
import java.nio.file.Path;
import java.util.Arrays;
import java.util.Set;
import java.util.TreeSet;
import java.util.stream.Collectors;

/** The face of the class, and the rules of LANGUAGE.md that a look at the class or its text can tell. */
public final class FaceTest {
    private static final String[] METHODS = {
        "int ship(int, int, int, int, int, int)", "int fill(int, int)", "int crew(int, int, int)",
        "int hours(int, int)", "int depth(int, int)", "void hinder(int, int, int, int)", "void bus(int, int, int)",
        "int reside(int, int)", "int plan(int, int, int, int)", "int cancel(int)", "int replace(int, int)",
        "int pass(int)", "int now()", "int state(int)", "int ends(int)", "int busAfter(int)", "int place(int)",
        "int placeByLine(int, int)", "int fuel(int)", "int book(int, int, int, int, int, boolean)",
        "int sailingOf(int)", "int lane(int)", "int paid(int)", "int taken(int)", "int list(int)",
        "long account(int)", "long accountAnew(int)"};
    private static final String[] CONSTANTS = {"NONE -1", "PLANNED 0", "CANCELLED 1", "SAILED 2", "WALKER 0", "CAR 1",
        "VAN 2", "TRUCK 3", "FARES 0", "STATE 1", "FUEL 2"};

    public static void main(String[] args) throws IOException, IllegalAccessException {
        methods();
        constants();
        constructor();
        insides();
        text(Files.readString(Path.of(args[0])));
        Check.end();
    }

    private static boolean isOpen(int modifiers) {
        return !Modifier.isPrivate(modifiers);
    }

    private static void methods() {
        Set<String> got = new TreeSet<>();
        Set<String> hidden = new TreeSet<>();
        Set<String> names = new TreeSet<>();
        for (Method m : ArchipelagoFerries.class.getDeclaredMethods()) {
            if (!isOpen(m.getModifiers())) {
                hidden.add(m.getName());
                continue;
            }
            String taken = Arrays.stream(m.getParameterTypes()).map(Class::getSimpleName)
                .collect(Collectors.joining(", "));
            names.add(m.getName());
            got.add(m.getReturnType().getSimpleName() + " " + m.getName() + "(" + taken + ")");
            Check.same("public " + m, Modifier.toString(m.getModifiers()), "public");
        }
        Check.same("methods", got.toString(), new TreeSet<>(Arrays.asList(METHODS)).toString());
        hidden.retainAll(names);
        Check.same("private methods with public names", hidden.toString(), "[]");
    }

    private static void constants() throws IllegalAccessException {
        Set<String> got = new TreeSet<>();
        for (Field f : ArchipelagoFerries.class.getDeclaredFields()) {
            if (isOpen(f.getModifiers())) {
                Check.same(f.getName(), Modifier.toString(f.getModifiers()), "public static final");
                got.add(f.getName() + " " + f.getInt(null));
            }
            if (Modifier.isStatic(f.getModifiers())) {
                Check.same("static " + f, Boolean.toString(Modifier.isFinal(f.getModifiers())), "true");
            }
        }
        Check.same("constants", got.toString(), new TreeSet<>(Arrays.asList(CONSTANTS)).toString());
    }

    private static void constructor() {
        Constructor<?>[] all = ArchipelagoFerries.class.getDeclaredConstructors();
        Check.same("constructors", all.length + " " + all[0], "1 public ArchipelagoFerries()");
        Check.same("class", Modifier.toString(ArchipelagoFerries.class.getModifiers()), "public final");
    }

    private static void insides() {
        Class<?>[] insides = ArchipelagoFerries.class.getDeclaredClasses();
        Check.same("some twelve classes", Boolean.toString(insides.length <= 12), "true");
        for (Class<?> inside : insides) {
            int m = inside.getModifiers();
            boolean isFine = Modifier.isStatic(m) && !Modifier.isPublic(m) && !Modifier.isProtected(m);
            Check.same("inside " + inside, Boolean.toString(isFine), "true");
            Check.same("fields of " + inside, Boolean.toString(inside.getDeclaredFields().length <= 20), "true");
        }
    }

    /** Words that the language rules leave out, and that the program has no need of. */
    private static void text(String program) {
        String[] ruledOut = {"->", "::", "catch", "try ", "finally", "synchronized", "assert", "instanceof", "record ",
            "static {", "Exact(", "Math.random", "System.", "Thread", "import java.io", "@", "Object", "equals(", "toString",
            "hashCode", "package "};
        for (String word : ruledOut) {
            Check.same("'" + word + "' in the program", Boolean.toString(program.contains(word)), "false");
        }
        long imports = program.lines().filter(line -> line.startsWith("import ")).count();
        Check.same("imports", Long.toString(imports), "1");
        boolean isPlain = program.chars().allMatch(c -> c == '\n' || c >= 32 && c < 127);
        Check.same("plain signs", Boolean.toString(isPlain), "true");
    }
}
