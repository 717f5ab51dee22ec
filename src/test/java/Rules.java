import java.lang.reflect.Modifier;
import java.nio.charset.StandardCharsets;
import java.nio.file.Files;
import java.nio.file.Path;
import java.util.ArrayList;
import java.util.HashMap;
import java.util.List;
import java.util.Map;
import java.util.TreeSet;

/**
 * What can be seen of the rules of LANGUAGE.md in the compiled class, and of the loops in its source. Where the class
 * needs less than a rule leaves it, the test holds it to that: no catch, no static initialiser, no cast, no recursion,
 * no object made by a call but an exception, and loops that count up alone.
 */
public final class Rules {
    private static final String TYPE = "\\[{0,2}[IJSBCZDF]|\\[?LHalfTables(\\$\\w+)?;|Ljava/lang/(String|StringBuilder"
        + "|Integer);|Ljava/util/(ArrayList|List);";
    private static final String STATIC_TYPE = "\\[?[IJC]|\\[B|Z|Ljava/lang/String;";
    private static final String EXCEPTION = "java/lang/(IllegalState|IllegalArgument|IndexOutOfBounds|Arithmetic"
        + "|UnsupportedOperation|Runtime)Exception|java/util/NoSuchElementException";

    private static final String[] LIBRARY = {
        "java/lang/Object\\.<init>:\\(\\)V",
        "java/lang/String\\.(length|charAt|isEmpty|equals|substring|toCharArray):.*",
        "java/lang/String\\.indexOf:\\(I\\)I",
        "java/lang/String\\.<init>:\\(\\[C\\)V",
        "java/lang/StringBuilder\\.(<init>:\\(\\)V|append:\\((C|I|Ljava/lang/String;)\\).*)",
        "java/lang/StringBuilder\\.(charAt|setCharAt|setLength|deleteCharAt|reverse|length|toString):.*",
        "java/util/(ArrayList|List)\\.(<init>|add|get|set|remove|size|isEmpty|clear|of):.*",
        "java/lang/(Integer|Long|Math)\\.\\w+(?<!Exact):\\([IJ]*\\)[IJ]",
        "java/lang/System\\.arraycopy:.*",
        "java/util/Arrays\\.(copyOf|copyOfRange|fill):\\(\\[[IJSBCDF].*",
        "(" + EXCEPTION + ")\\.<init>:\\((Ljava/lang/String;)?\\)V",
    };

    private static final int GET_STATIC = 178;
    private static final int CALL_SPECIAL = 183;
    private static final int CALL_INTERFACE = 185;
    private static final int CALL_DYNAMIC = 186;
    private static final int NEW = 187;
    private static final int NEW_ARRAY = 188;
    private static final int NEW_OBJECT_ARRAY = 189;
    private static final int THROW = 191;
    private static final int CAST = 192;
    private static final int ENTER = 194;
    private static final int LEAVE = 195;
    private static final int NEW_ARRAYS = 197;

    private static final List<ClassFile> CLASSES = new ArrayList<>();
    private static int wrong = 0;

    private static void due(int rule, String what, boolean holds) {
        if (!holds) {
            wrong++;
            System.out.println("rule " + rule + ": " + what);
        }
    }

    private static void read(Class<?> kind) throws Exception {
        CLASSES.add(ClassFile.of(kind));
        for (Class<?> inside : kind.getDeclaredClasses()) {
            due(2, inside + " is static", Modifier.isStatic(inside.getModifiers()));
            read(inside);
        }
    }

    private static boolean isNumber(int instruction) {
        boolean oneToFive = instruction >= 4 && instruction <= 8 || instruction == 10;
        return oneToFive || instruction >= 16 && instruction <= 20;
    }

    private static void fields(ClassFile file) {
        int own = 0;
        for (ClassFile.Member field : file.fields) {
            String what = file.name + "." + field.name + " of type " + field.type;
            due(3, what, field.type.matches(TYPE));
            if (Modifier.isStatic(field.access)) {
                due(5, what + " is final", Modifier.isFinal(field.access));
                due(5, what + " is a constant", field.type.matches(STATIC_TYPE));
            } else {
                own++;
            }
        }
        due(11, file.name + " has " + own + " fields", own <= 20);
    }

    /** The types that a method takes, and behind them the one that it answers. */
    private static List<String> types(String signature) {
        List<String> types = new ArrayList<>();
        int begin = 1;
        for (int at = 1; at < signature.length(); at++) {
            char sign = signature.charAt(at);
            if (sign == ')') {
                begin = at + 1;
            } else if (sign != '[') {
                at = sign == 'L' ? signature.indexOf(';', at) : at;
                types.add(signature.substring(begin, at + 1));
                begin = at + 1;
            }
        }
        return types;
    }

    private static void method(ClassFile file, ClassFile.Member method) {
        String what = file.name + "." + method.name + method.type;
        List<String> types = types(method.type);
        for (String type : types) {
            due(3, what + " with " + type, type.equals("V") || type.matches(TYPE));
        }
        due(11, what + " takes " + (types.size() - 1), types.size() - 1 <= 7);
        due(11, what + " has many lines", method.lastLine - method.firstLine < 60);
        due(5, what + " is a static initialiser", !method.name.equals("<clinit>"));
        due(6, what + " catches", method.handlers == 0);
        ClassFile.Instruction before = new ClassFile.Instruction(0, "");
        for (ClassFile.Instruction now : method.instructions) {
            instruction(what, method.name.equals("<init>"), before, now);
            before = now;
        }
    }

    private static void instruction(String what, boolean inConstructor, ClassFile.Instruction before,
        ClassFile.Instruction now) {
        switch (now.code) {
            case 108: case 109: case 112: case 113:
                due(7, what + " divides by what is no constant", isNumber(before.code));
                break;
            case THROW:
                due(6, what + " is a constructor that throws", !inConstructor);
                boolean made = before.code == CALL_SPECIAL && before.names.matches("(" + EXCEPTION + ")\\.<init>.*");
                due(6, what + " throws what it has not just made", made);
                break;
            case NEW:
                due(12, what + " makes " + now.names, inConstructor || now.names.matches(EXCEPTION));
                break;
            case NEW_ARRAY: case NEW_OBJECT_ARRAY:
                due(12, what + " makes an array", inConstructor);
                due(7, what + " makes an array of a length that is no constant", isNumber(before.code));
                break;
            case NEW_ARRAYS:
                due(12, what + " makes arrays", false);
                break;
            case CAST:
                due(7, what + " casts to " + now.names, false);
                break;
            case CALL_DYNAMIC:
                due(2, what + " has a lambda, a method reference or texts joined by +", false);
                break;
            case ENTER: case LEAVE:
                due(6, what + " is synchronized", false);
                break;
            default:
                if (now.code >= GET_STATIC && now.code <= CALL_INTERFACE) {
                    due(4, what + " uses " + now.names, isOwn(now.names) || isInLibrary(now.names));
                }
        }
    }

    private static boolean isOwn(String member) {
        return member.startsWith("HalfTables.") || member.startsWith("HalfTables$");
    }

    private static boolean isInLibrary(String member) {
        for (String allowed : LIBRARY) {
            if (member.matches(allowed)) {
                return true;
            }
        }
        return false;
    }

    private static Map<String, TreeSet<String>> calls() {
        Map<String, TreeSet<String>> calls = new HashMap<>();
        for (ClassFile file : CLASSES) {
            for (ClassFile.Member method : file.methods) {
                TreeSet<String> called = new TreeSet<>();
                for (ClassFile.Instruction now : method.instructions) {
                    if (now.code > 181 && now.code < NEW && isOwn(now.names)) {
                        called.add(now.names);
                    }
                }
                calls.put(file.name + "." + method.name + ":" + method.type, called);
            }
        }
        return calls;
    }

    /** The calls that stand open at once, from this method on. */
    private static int depth(String method, Map<String, TreeSet<String>> calls, List<String> open) {
        due(8, method + " comes back to itself by " + open, !open.contains(method));
        due(4, method + " is read", calls.containsKey(method));
        int deepest = 0;
        if (!open.contains(method) && calls.containsKey(method)) {
            open.add(method);
            for (String called : calls.get(method)) {
                deepest = Math.max(deepest, depth(called, calls, open));
            }
            open.remove(method);
        }
        return deepest + 1;
    }

    private static void depths() {
        Map<String, TreeSet<String>> calls = calls();
        int deepest = 0;
        for (String method : calls.keySet()) {
            int depth = depth(method, calls, new ArrayList<>());
            due(11, method + " goes " + depth + " deep", depth <= 8);
            deepest = Math.max(deepest, depth);
        }
        // The reader of class files has to have seen the calls.
        due(11, "the calls go " + deepest + " deep, as run() and countWrongPairs() do", deepest >= 4);
    }

    private static void loops() throws Exception {
        List<String> lines = Files.readAllLines(Path.of("src/main/java/HalfTables.java"), StandardCharsets.UTF_8);
        int loops = 0;
        for (String line : lines) {
            due(9, line, !line.contains("while (") && !line.contains(" do {"));
            if (line.contains("for (")) {
                loops++;
                due(9, line, line.matches(" *for \\(int (\\w+) = \\w+; \\1 <=? [\\w.()]+( - 1)?; \\1\\+\\+\\) \\{"));
            }
        }
        due(9, loops + " loops are seen", loops >= 10);
    }

    public static void main(String[] args) throws Exception {
        read(HalfTables.class);
        due(11, CLASSES.size() + " classes", CLASSES.size() > 1 && CLASSES.size() <= 12);
        for (ClassFile file : CLASSES) {
            fields(file);
            due(1, file.name + " has methods", !file.methods.isEmpty());
            for (ClassFile.Member method : file.methods) {
                due(1, file.name + "." + method.name + " has instructions", !method.instructions.isEmpty());
                method(file, method);
            }
        }
        depths();
        loops();
        System.out.println(wrong == 0 ? "the rules are kept" : wrong + " breaks of rules");
        if (wrong != 0) {
            System.exit(1);
        }
    }
}
