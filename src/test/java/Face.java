import java.lang.reflect.Constructor;
import java.lang.reflect.Field;
import java.lang.reflect.Method;
import java.lang.reflect.Modifier;
import java.nio.charset.StandardCharsets;
import java.nio.file.Files;
import java.nio.file.Path;
import java.util.Arrays;
import java.util.Set;
import java.util.TreeSet;
import java.util.stream.Collectors;

/** The members of the class are those of the document, and its source keeps to rules that can be seen by its words. */
public final class Face {
    private static final String[] METHODS = {
        "int setWidth(int) IllegalArgumentException",
        "int setCost(int, int) IllegalArgumentException",
        "int flip(int, int) IndexOutOfBoundsException, IllegalArgumentException",
        "int repair(int) IndexOutOfBoundsException",
        "int repairByParity() ",
        "int setRegister(int, int) IndexOutOfBoundsException, IllegalArgumentException",
        "long clearAccount() ",
        "int multiply(int, int, int) IllegalArgumentException",
        "int cost(int, int, int) IllegalArgumentException",
        "int cheapest(int, int) IllegalArgumentException",
        "int fraction(int, int, int, int, int) IllegalArgumentException",
        "double error(int, int, int, int) IllegalArgumentException",
        "int entry(int, int) IndexOutOfBoundsException, IllegalArgumentException",
        "int register(int) IndexOutOfBoundsException",
        "int value(int) IllegalArgumentException",
        "long account() ",
        "int wrongPairs() ",
        "int wrongPairsWith(int) IndexOutOfBoundsException",
        "int firstWrong() ",
        "int suspect() ",
        "int cheaperPairs(int, int) IllegalArgumentException",
        "int append(int) IllegalArgumentException, IllegalStateException",
        "int clearText() ",
        "int run() ",
        "int undo() IllegalStateException",
        "long digest() ",
    };

    private static final String[] RULED_OUT = {
        "->", "::", "synchronized", "assert ", "finally", "catch", "import java.util.function", "System.out",
        "record ", "import java.io", "import java.nio", "Random", "currentTimeMillis", "nanoTime", "Thread", "Exact(",
        "interface ", "static {", "hashCode", "toString", "equals(", "float ",
    };

    private static int wrong = 0;

    private static void due(String what, Object got, Object want) {
        if (!got.equals(want)) {
            wrong++;
            System.out.println(what + " is " + got + ", due is " + want);
        }
    }

    private static String names(Class<?>[] classes) {
        return Arrays.stream(classes).map(Class::getSimpleName).collect(Collectors.joining(", "));
    }

    private static void members() {
        Set<String> open = new TreeSet<>();
        Set<String> openNames = new TreeSet<>();
        for (Method method : HalfTables.class.getDeclaredMethods()) {
            if (!Modifier.isPrivate(method.getModifiers())) {
                due("modifiers of " + method.getName(), method.getModifiers(), Modifier.PUBLIC);
                openNames.add(method.getName());
                open.add(method.getReturnType() + " " + method.getName() + "(" + names(method.getParameterTypes())
                    + ") " + names(method.getExceptionTypes()));
            }
        }
        due("the face", open, new TreeSet<>(Arrays.asList(METHODS)));
        privateNames(HalfTables.class, openNames);
        for (Class<?> inside : HalfTables.class.getDeclaredClasses()) {
            due("static " + inside, Modifier.isStatic(inside.getModifiers()), true);
            due("private " + inside, Modifier.isPrivate(inside.getModifiers()), true);
            privateNames(inside, openNames);
        }
        Constructor<?>[] constructors = HalfTables.class.getDeclaredConstructors();
        due("constructors", constructors.length, 1);
        due("constructor", constructors[0].toString(), "public HalfTables()");
        due("class", HalfTables.class.getModifiers(), Modifier.PUBLIC | Modifier.FINAL);
    }

    private static void privateNames(Class<?> where, Set<String> openNames) {
        for (Method method : where.getDeclaredMethods()) {
            boolean open = Modifier.isPublic(method.getModifiers()) && where == HalfTables.class;
            due("name of a public method at " + method, !open && openNames.contains(method.getName()), false);
        }
        for (Field field : where.getDeclaredFields()) {
            boolean isStatic = Modifier.isStatic(field.getModifiers());
            boolean isFinal = Modifier.isFinal(field.getModifiers());
            due("static and not final: " + field, isStatic && !isFinal, false);
            boolean open = !Modifier.isPrivate(field.getModifiers()) && where == HalfTables.class;
            due("open field " + field, open, field.getName().equals("NONE"));
        }
    }

    private static void source() throws Exception {
        String text = Files.readString(Path.of("src/main/java/HalfTables.java"), StandardCharsets.UTF_8);
        for (String word : RULED_OUT) {
            due("the source has " + word, text.contains(word), false);
        }
        due("signs above 126", text.chars().anyMatch(c -> c > 126), false);
    }

    public static void main(String[] args) throws Exception {
        members();
        source();
        System.out.println(wrong == 0 ? "the face is as due" : wrong + " things are not as due");
        if (wrong != 0) {
            System.exit(1);
        }
    }
}
