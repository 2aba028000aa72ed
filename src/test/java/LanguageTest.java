import java.lang.reflect.Constructor;
import java.lang.reflect.Field;
import java.lang.reflect.Method;
import java.lang.reflect.Modifier;
import java.nio.file.Files;
import java.nio.file.Path;
import java.util.ArrayList;
import java.util.Arrays;
import java.util.List;
import java.util.Random;
import java.util.Set;
import java.util.TreeSet;
import java.util.regex.Matcher;
import java.util.regex.Pattern;

/**
 * What of ../shared/LANGUAGE.md can be seen from outside: the face, words that may not stand in the
 * source, and that no arguments make a call throw. Run from the root of the project.
 */
public final class LanguageTest {
    private static final String SOURCE = "src/main/java/DensitiesOfNets.java";
    private static final String[] FACE = {
        "int flag(int,int)", "int rooted(int,int)", "int alike(int,int,int)", "long inside(int,int,int)",
        "long joint(int,int,int,int)", "long jointRooted(int,int,int,int)", "int points(int)",
        "int line(int,int,int)", "int told(int)", "int beside(int)", "long share(int,int)",
        "long shareAt(int,int,int)", "int maps(int)", "int rank(int,int)", "int found(int,int)",
        "int feed(int)", "int read(int)", "int clear(int)", "int sum(int,int)", "int term(int,int)",
        "long coefficient(int,int,int)", "int makes(int,int,int,int)", "int lift(int,int)", "int average(int)",
        "long bound(int,int,int,int)", "long value(int,int)", "long valueAt(int,int,int)", "int move(int,int)",
        "int film(int,int)", "int image()", "int back()", "int count(int)",
    };
    private static final String[] CONSTANTS = {"NONE", "BAD", "STATE", "FULL", "OVER", "NO"};

    private static int wrong = 0;

    private static void must(boolean holds, String what) {
        if (!holds) {
            wrong++;
            System.out.println(what);
        }
    }

    public static void main(String[] args) throws Exception {
        face();
        source();
        library();
        methods();
        fields();
        oddArguments();
        System.out.println(wrong == 0 ? "the language is kept" : wrong + " rules are broken");
        System.exit(wrong == 0 ? 0 : 1);
    }

    private static void face() throws Exception {
        TreeSet<String> names = new TreeSet<>();
        TreeSet<String> seen = new TreeSet<>();
        for (Method method : DensitiesOfNets.class.getDeclaredMethods()) {
            if (Modifier.isPublic(method.getModifiers())) {
                must(!Modifier.isStatic(method.getModifiers()), method + " is static");
                StringBuilder text = new StringBuilder(method.getReturnType() + " " + method.getName() + "(");
                for (int i = 0; i < method.getParameterCount(); i++) {
                    text.append(i == 0 ? "" : ",").append(method.getParameterTypes()[i]);
                }
                seen.add(text + ")");
                names.add(method.getName());
            }
        }
        must(seen.equals(new TreeSet<>(Arrays.asList(FACE))), "the public methods are not those of the face: " + seen);
        for (Method method : DensitiesOfNets.class.getDeclaredMethods()) {
            boolean isPrivate = Modifier.isPrivate(method.getModifiers());
            must(isPrivate || Modifier.isPublic(method.getModifiers()), method + " is neither public nor private");
            must(!isPrivate || !names.contains(method.getName()), method + " bears the name of a public one");
        }
        TreeSet<String> constants = new TreeSet<>();
        for (Field field : DensitiesOfNets.class.getDeclaredFields()) {
            int how = field.getModifiers();
            must(Modifier.isPublic(how) || Modifier.isPrivate(how), field + " is neither public nor private");
            must(!Modifier.isStatic(how) || Modifier.isFinal(how), field + " is static, but not final");
            if (Modifier.isPublic(how)) {
                must(Modifier.isStatic(how), field + " is no constant");
                must(field.getType() == (field.getName().equals("NO") ? long.class : int.class), field + "'s type");
                constants.add(field.getName());
            }
        }
        must(constants.equals(new TreeSet<>(Arrays.asList(CONSTANTS))), "constants: " + constants);
        must(DensitiesOfNets.NONE == -1 && DensitiesOfNets.BAD == -2 && DensitiesOfNets.STATE == -3
                && DensitiesOfNets.FULL == -4 && DensitiesOfNets.OVER == -6
                && DensitiesOfNets.NO == Long.MIN_VALUE, "the constants have other values");
        Constructor<?>[] constructors = DensitiesOfNets.class.getDeclaredConstructors();
        must(constructors.length == 1 && constructors[0].getParameterCount() == 0
                && Modifier.isPublic(constructors[0].getModifiers()), "constructors");
        int own = DensitiesOfNets.class.getModifiers();
        must(Modifier.isPublic(own) && Modifier.isFinal(own), "the class is not public and final");
        for (Class<?> inner : DensitiesOfNets.class.getDeclaredClasses()) {
            must(Modifier.isStatic(inner.getModifiers()), inner + " is not static");
            must(!Modifier.isPublic(inner.getModifiers()), inner + " is public");
            for (Method method : inner.getDeclaredMethods()) {
                must(!names.contains(method.getName()), method + " bears the name of a public one");
            }
        }
        must(DensitiesOfNets.class.getDeclaredClasses().length < 12, "too many classes");
    }

    private static void source() throws Exception {
        String text = Files.readString(Path.of(SOURCE));
        String code = code();
        String[] words = {
            "\\bthrows?\\b", "\\btry\\b", "\\bcatch\\b", "\\bfinally\\b", "\\bsynchronized\\b", "\\bassert\\b",
            "\\bimport\\b", "\\bpackage\\b", "->", "::", "Exact\\b", "\\bSystem\\.(?!arraycopy)", "\\bThread\\b",
            "\\bequals\\b", "\\bhashCode\\b", "\\btoString\\b", "\\bprotected\\b", "\\bObject\\b", "@", "\\?\\s*>",
        };
        for (String word : words) {
            Matcher matcher = Pattern.compile(word).matcher(code);
            must(!matcher.find(), "the source has " + word);
        }
        must(text.chars().allMatch(sign -> sign == '\n' || sign >= 32 && sign < 127), "the source has other signs");
        must(text.lines().allMatch(line -> line.length() <= 120), "the source has long lines");
    }

    private static String code() throws Exception {
        return Files.readString(Path.of(SOURCE)).replaceAll("(?s)/\\*.*?\\*/", "").replaceAll("//[^\n]*", "");
    }

    private static List<Class<?>> classes() {
        List<Class<?>> all = new ArrayList<>(List.of(DensitiesOfNets.class.getDeclaredClasses()));
        all.add(DensitiesOfNets.class);
        return all;
    }

    private static void library() throws Exception {
        Set<String> own = new TreeSet<>();
        for (Class<?> one : classes()) {
            own.add(one.getSimpleName());
        }
        Set<String> allowed = Set.of("Integer.bitCount", "Math.abs", "Math.max", "Math.min", "Math.floorDiv",
                "Math.floorMod", "Long.MIN_VALUE");
        Matcher matcher = Pattern.compile("\\b([A-Z][a-z]\\w*)\\.(\\w+)").matcher(code());
        while (matcher.find()) {
            must(own.contains(matcher.group(1)) || allowed.contains(matcher.group()), "library: " + matcher.group());
        }
        Matcher made = Pattern.compile("\\bnew (\\w+)").matcher(code());
        while (made.find()) {
            must(own.contains(made.group(1)) || made.group(1).matches("int|long|boolean"), "library: " + made.group());
        }
    }

    /** Short, with few parameters, not calling themselves; objects are made for fields and by constructors alone. */
    private static void methods() throws Exception {
        Pattern header = Pattern.compile(
                "( +)(?:(?:public|private|static|final) )*(?:[\\w\\[\\]]+ )?(\\w+)\\((.*)\\) \\{");
        String name = "";
        String indent = "";
        int first = 0;
        int many = 0;
        String[] lines = code().split("\n");
        for (int i = 0; i < lines.length; i++) {
            Matcher matcher = header.matcher(lines[i]);
            if (name.isEmpty() && matcher.matches()) {
                indent = matcher.group(1);
                name = matcher.group(2);
                first = i;
                many++;
                must(matcher.group(3).split(",").length <= 7, name + " has too many parameters");
            } else if (!name.isEmpty()) {
                must(!lines[i].matches(".*(?<![.\\w])" + name + "\\(.*"), name + " calls itself");
            }
            boolean makes = lines[i].contains("new ");
            must(!makes || name.isEmpty() || name.equals("allRenamings") || Character.isUpperCase(name.charAt(0)),
                    name + " makes an object");
            if (lines[i].equals(indent + "}")) {
                must(i - first <= 60, name + " is too long");
                name = "";
            }
        }
        must(many > 100, "the methods are no longer seen: " + many);
    }

    private static void fields() {
        for (Class<?> one : classes()) {
            int many = 0;
            for (Field field : one.getDeclaredFields()) {
                boolean isStatic = Modifier.isStatic(field.getModifiers());
                many += isStatic ? 0 : 1;
                Class<?> type = field.getType();
                boolean isTable = type == int[][].class;
                Class<?> held = isTable ? int.class : type.isArray() ? type.getComponentType() : type;
                must(held == int.class || held == long.class || held == boolean.class || classes().contains(held),
                        field + " is of a type that is not listed");
                must(!isStatic || Modifier.isFinal(field.getModifiers()) && (type == int.class || type == long.class),
                        field + " is no constant");
            }
            must(many <= 20, one + " has too many fields");
            must(one.getSuperclass() == Object.class, one + " has another class above it");
        }
    }

    /** With what is far off as with what is near, in any state. */
    private static void oddArguments() throws Exception {
        int[] odd = {0, 1, 2, 3, 4, 5, 8, 18, 19, 28, 29, 63, 64, -1, -2, 127, 128, 1000,
            Integer.MIN_VALUE, Integer.MAX_VALUE, Integer.MIN_VALUE + 1, 1 << 30};
        Random random = new Random(7);
        Method[] methods = DensitiesOfNets.class.getDeclaredMethods();
        Arrays.sort(methods, (one, other) -> one.toString().compareTo(other.toString()));
        for (int run = 0; run < 400; run++) {
            DensitiesOfNets x = new DensitiesOfNets();
            for (int call = 0; call < 512; call++) {
                Method method = methods[random.nextInt(methods.length)];
                if (!Modifier.isPublic(method.getModifiers())) {
                    continue;
                }
                Object[] arguments = new Object[method.getParameterCount()];
                for (int i = 0; i < arguments.length; i++) {
                    arguments[i] = odd[random.nextInt(random.nextBoolean() ? 4 : odd.length)];
                }
                try {
                    method.invoke(x, arguments);
                } catch (ReflectiveOperationException thrown) {
                    must(false, method + Arrays.toString(arguments) + " throws " + thrown.getCause());
                    return;
                }
            }
        }
    }
}
