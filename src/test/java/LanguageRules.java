import java.io.DataInputStream;
import java.io.IOException;
import java.lang.reflect.Constructor;
import java.lang.reflect.Executable;
import java.lang.reflect.Field;
import java.lang.reflect.Member;
import java.lang.reflect.Method;
import java.lang.reflect.Modifier;
import java.nio.file.Files;
import java.nio.file.Path;
import java.util.ArrayList;
import java.util.List;
import java.util.Set;
import java.util.TreeSet;
import java.util.regex.Matcher;
import java.util.regex.Pattern;

/** What of LANGUAGE.md can be seen in the program's text and in its compiled face. */
public final class LanguageRules {
    private static final Path SOURCE = Path.of("src/main/java/InterlockTables.java");
    private static final int LONGEST_METHOD = 60;
    private static final int MOST_PARAMETERS = 7;
    private static final Set<Class<?>> CONSTANTS = Set.of(int.class, long.class, boolean.class, char.class,
        String.class, int[].class, long[].class, char[].class, byte[].class);
    // Rule 4, without what the program has no need of.
    private static final Set<String> LIBRARY = Set.of("java/lang/Object.<init>",
        "java/lang/String.length", "java/lang/String.charAt", "java/lang/String.isEmpty", "java/lang/String.equals",
        "java/util/ArrayList.<init>", "java/util/ArrayList.add", "java/util/ArrayList.get", "java/util/ArrayList.set",
        "java/util/ArrayList.size", "java/util/ArrayList.isEmpty", "java/util/ArrayList.clear",
        "java/lang/Math.max", "java/lang/Math.min", "java/lang/Math.abs", "java/lang/Integer.bitCount",
        "java/lang/System.arraycopy", "java/util/Arrays.copyOf", "java/util/Arrays.copyOfRange",
        "java/util/Arrays.fill");

    private static int wrong = 0;

    public static void main(String[] args) throws Exception {
        String bare = bare(Files.readString(SOURCE));
        words(bare);
        imports(bare);
        face();
        nested();
        for (Class<?> one : allClasses()) {
            methods(one);
            staticFields(one);
            library(one);
        }
        methodLengths(bare);
        System.out.println(wrong == 0 ? "rules are kept" : wrong + " rules are broken");
        if (wrong != 0) {
            System.exit(1);
        }
    }

    private static void check(String what, boolean good) {
        if (!good) {
            wrong++;
            System.out.println("LANGUAGE.md: " + what);
        }
    }

    /** The program without its comments, and with empty texts. */
    private static String bare(String source) {
        return source
            .replaceAll("\"(\\\\.|[^\"\\\\])*\"", "\"\"")
            .replaceAll("'(\\\\.|[^'\\\\])'", "' '")
            .replaceAll("(?s)/\\*.*?\\*/", "")
            .replaceAll("//[^\n]*", "");
    }

    private static void words(String bare) {
        String[] none = {"throw", "throws", "try", "catch", "finally", "synchronized", "assert", "package", "volatile",
            "native", "System", "Random", "Thread", "Object", "protected", "equals", "hashCode", "toString", "var"};
        for (String word : none) {
            check("no " + word, !Pattern.compile("\\b" + word + "\\b").matcher(bare).find());
        }
        check("no lambda", !bare.contains("->"));
        check("no method reference", !bare.contains("::"));
        check("no static block", !Pattern.compile("static\\s*\\{").matcher(bare).find());
        check("no texts joined by +", !bare.contains("\"\" +") && !bare.contains("+ \"\""));
        check("no Exact", !bare.contains("Exact"));
    }

    private static void imports(String bare) {
        Matcher matcher = Pattern.compile("import\\s+([^;]+);").matcher(bare);
        Set<String> allowed = Set.of("java.util.ArrayList", "java.util.List", "java.util.Arrays", "java.util.Iterator");
        while (matcher.find()) {
            check("import " + matcher.group(1), allowed.contains(matcher.group(1)));
        }
    }

    private static void face() {
        Set<String> seen = new TreeSet<>();
        List<Member> all = new ArrayList<>(List.of(InterlockTables.class.getDeclaredMethods()));
        all.addAll(List.of(InterlockTables.class.getDeclaredFields()));
        all.addAll(List.of(InterlockTables.class.getDeclaredConstructors()));
        for (Member member : all) {
            if (!Modifier.isPrivate(member.getModifiers())) {
                check("visible but not public: " + member, Modifier.isPublic(member.getModifiers()));
                seen.add(shown(member));
            }
        }
        Set<String> want = new TreeSet<>(Set.of("NONE", "InterlockTables()", "boolean unit(int)", "int read()",
            "boolean condition(int, boolean)", "boolean tick(int)", "int act(int)", "int pass(int, int, int, int)",
            "int listed(int)", "boolean reset(int)", "int test(int)", "int row(int, int)", "int write(int)",
            "void clear()"));
        check("the face is " + seen, seen.equals(want));
        int modifiers = InterlockTables.class.getModifiers();
        check("public and final", Modifier.isPublic(modifiers) && Modifier.isFinal(modifiers));
    }

    private static String shown(Member member) {
        if (member instanceof Field) {
            return member.getName();
        }
        Class<?>[] types = member instanceof Method method
            ? method.getParameterTypes()
            : ((Constructor<?>) member).getParameterTypes();
        List<String> names = new ArrayList<>();
        for (Class<?> type : types) {
            names.add(type.getName());
        }
        String answer = member instanceof Method method ? method.getReturnType().getName() + " " : "";
        return answer + member.getName() + "(" + String.join(", ", names) + ")";
    }

    private static void nested() {
        Class<?>[] classes = InterlockTables.class.getDeclaredClasses();
        check("at most twelve classes", classes.length < 12);
        for (Class<?> inside : classes) {
            check(inside + " is static", Modifier.isStatic(inside.getModifiers()));
            check(inside + " is not public", !Modifier.isPublic(inside.getModifiers()));
            check(inside + " has no class inside", inside.getDeclaredClasses().length == 0);
            check(inside + " has at most twenty fields", inside.getDeclaredFields().length <= 20);
        }
    }

    private static List<Class<?>> allClasses() {
        List<Class<?>> all = new ArrayList<>(List.of(InterlockTables.class));
        all.addAll(List.of(InterlockTables.class.getDeclaredClasses()));
        return all;
    }

    private static void methods(Class<?> one) {
        Set<String> face = new TreeSet<>();
        for (Method method : InterlockTables.class.getMethods()) {
            face.add(method.getName());
        }
        List<Executable> all = new ArrayList<>(List.of(one.getDeclaredMethods()));
        for (Executable method : all) {
            boolean ofTheFace = one == InterlockTables.class && Modifier.isPublic(method.getModifiers());
            check(method + " bears the name of a public one", ofTheFace || !face.contains(method.getName()));
        }
        all.addAll(List.of(one.getDeclaredConstructors()));
        for (Executable method : all) {
            check(method + " has at most seven parameters", method.getParameterCount() <= MOST_PARAMETERS);
            check(method + " is not made by the compiler", !method.isSynthetic());
        }
    }

    private static void staticFields(Class<?> one) {
        for (Field field : one.getDeclaredFields()) {
            if (Modifier.isStatic(field.getModifiers())) {
                check(field + " is a constant", Modifier.isFinal(field.getModifiers())
                    && CONSTANTS.contains(field.getType()));
            }
        }
    }

    /** The methods that a class's compiled form names stand in its pool of constants. */
    private static void library(Class<?> one) throws IOException {
        String file = one.getName() + ".class";
        try (DataInputStream in = new DataInputStream(InterlockTables.class.getResourceAsStream(file))) {
            in.skipNBytes(8);
            int size = in.readUnsignedShort();
            String[] texts = new String[size];
            int[][] pairs = new int[size][];
            List<Integer> methods = new ArrayList<>();
            for (int i = 1; i < size; i++) {
                int tag = in.readUnsignedByte();
                switch (tag) {
                    case 1: texts[i] = in.readUTF(); break;
                    case 3: case 4: in.skipNBytes(4); break;
                    // A long or a double takes two places.
                    case 5: case 6: in.skipNBytes(8); i++; break;
                    case 7: case 8: pairs[i] = new int[] {in.readUnsignedShort(), 0}; break;
                    case 9: case 10: case 11: case 12:
                        pairs[i] = new int[] {in.readUnsignedShort(), in.readUnsignedShort()};
                        if (tag == 10 || tag == 11) {
                            methods.add(i);
                        }
                        break;
                    default:
                        check(file + " has something dynamic in it", false);
                        return;
                }
            }
            for (int i : methods) {
                String owner = texts[pairs[pairs[i][0]][0]];
                String called = owner + "." + texts[pairs[pairs[i][1]][0]];
                check(file + " calls " + called, owner.startsWith("InterlockTables") || LIBRARY.contains(called));
            }
        }
    }

    /** A method starts with a line that ends with ") {" behind a type and a name. */
    private static void methodLengths(String bare) {
        String[] lines = bare.split("\n");
        for (int i = 0; i < lines.length; i++) {
            Matcher head = Pattern.compile("^( +)[A-Za-z][^;=.!]*\\) \\{$").matcher(lines[i]);
            if (head.find() && !lines[i].trim().matches("(if|for|while|switch|else)\\b.*")) {
                int end = i;
                while (end < lines.length && !lines[end].equals(head.group(1) + "}")) {
                    end++;
                }
                check("long method: " + lines[i].trim(), end - i < LONGEST_METHOD);
            }
        }
    }
}
