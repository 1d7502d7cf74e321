import java.lang.reflect.Constructor;
import java.lang.reflect.Field;
import java.lang.reflect.Member;
import java.lang.reflect.Method;
import java.lang.reflect.Modifier;
import java.nio.file.Files;
import java.nio.file.Path;
import java.util.ArrayList;
import java.util.List;
import java.util.Set;
import java.util.TreeSet;
import java.util.regex.Matcher;
import java.util.regex.Pattern;

/** What of LANGUAGE.md can be seen in the program's text and in its compiled face. */
public final class LanguageRules {
    private static final Path SOURCE = Path.of("src/main/java/InterlockTables.java");
    private static final int LONGEST_METHOD = 60;

    private static int wrong = 0;

    public static void main(String[] args) throws Exception {
        String bare = bare(Files.readString(SOURCE));
        words(bare);
        imports(bare);
        face();
        nested();
        methodLengths(bare);
        System.out.println(wrong == 0 ? "rules are kept" : wrong + " rules are broken");
        if (wrong != 0) {
            System.exit(1);
        }
    }

    private static void check(String what, boolean good) {
        if (!good) {
            wrong++;
            System.out.println("LANGUAGE.md: " + what);
        }
    }

    /** The program without its comments, and with empty texts. */
    private static String bare(String source) {
        return source
            .replaceAll("\"(\\\\.|[^\"\\\\])*\"", "\"\"")
            .replaceAll("'(\\\\.|[^'\\\\])'", "' '")
            .replaceAll("(?s)/\\*.*?\\*/", "")
            .replaceAll("//[^\n]*", "");
    }

    private static void words(String bare) {
        String[] none = {"throw", "throws", "try", "catch", "finally", "synchronized", "assert", "package", "volatile",
            "native", "System", "Random", "Thread", "Object", "protected", "equals", "hashCode", "toString", "var"};
        for (String word : none) {
            check("no " + word, !Pattern.compile("\\b" + word + "\\b").matcher(bare).find());
        }
        check("no lambda", !bare.contains("->"));
        check("no method reference", !bare.contains("::"));
        check("no static block", !Pattern.compile("static\\s*\\{").matcher(bare).find());
        check("no texts joined by +", !bare.contains("\"\" +") && !bare.contains("+ \"\""));
        check("no Exact", !bare.contains("Exact"));
    }

    private static void imports(String bare) {
        Matcher matcher = Pattern.compile("import\\s+([^;]+);").matcher(bare);
        Set<String> allowed = Set.of("java.util.ArrayList", "java.util.List", "java.util.Arrays", "java.util.Iterator");
        while (matcher.find()) {
            check("import " + matcher.group(1), allowed.contains(matcher.group(1)));
        }
    }

    private static void face() {
        Set<String> seen = new TreeSet<>();
        List<Member> all = new ArrayList<>(List.of(InterlockTables.class.getDeclaredMethods()));
        all.addAll(List.of(InterlockTables.class.getDeclaredFields()));
        all.addAll(List.of(InterlockTables.class.getDeclaredConstructors()));
        for (Member member : all) {
            if (!Modifier.isPrivate(member.getModifiers())) {
                check("visible but not public: " + member, Modifier.isPublic(member.getModifiers()));
                seen.add(shown(member));
            }
        }
        Set<String> want = new TreeSet<>(Set.of("NONE", "InterlockTables()", "boolean unit(int)", "int read()",
            "boolean condition(int, boolean)", "boolean tick(int)", "int act(int)", "int pass(int, int, int, int)",
            "int listed(int)", "boolean reset(int)", "int test(int)", "int row(int, int)", "int write(int)",
            "void clear()"));
        check("the face is " + seen, seen.equals(want));
        int modifiers = InterlockTables.class.getModifiers();
        check("public and final", Modifier.isPublic(modifiers) && Modifier.isFinal(modifiers));
    }

    private static String shown(Member member) {
        if (member instanceof Field) {
            return member.getName();
        }
        Class<?>[] types = member instanceof Method method
            ? method.getParameterTypes()
            : ((Constructor<?>) member).getParameterTypes();
        List<String> names = new ArrayList<>();
        for (Class<?> type : types) {
            names.add(type.getName());
        }
        String answer = member instanceof Method method ? method.getReturnType().getName() + " " : "";
        return answer + member.getName() + "(" + String.join(", ", names) + ")";
    }

    private static void nested() {
        Class<?>[] classes = InterlockTables.class.getDeclaredClasses();
        check("at most twelve classes", classes.length < 12);
        for (Class<?> inside : classes) {
            check(inside + " is static", Modifier.isStatic(inside.getModifiers()));
            check(inside + " is not public", !Modifier.isPublic(inside.getModifiers()));
            check(inside + " has at most twenty fields", inside.getDeclaredFields().length <= 20);
            for (Field field : inside.getDeclaredFields()) {
                check(field + " is no static state", !Modifier.isStatic(field.getModifiers())
                    || Modifier.isFinal(field.getModifiers()));
            }
        }
        for (Field field : InterlockTables.class.getDeclaredFields()) {
            check(field + " is no static state", !Modifier.isStatic(field.getModifiers())
                || Modifier.isFinal(field.getModifiers()));
        }
    }

    /** A method starts with a line that ends with ") {" behind a type and a name. */
    private static void methodLengths(String bare) {
        String[] lines = bare.split("\n");
        for (int i = 0; i < lines.length; i++) {
            Matcher head = Pattern.compile("^( +)[A-Za-z][^;=.!]*\\) \\{$").matcher(lines[i]);
            if (head.find() && !lines[i].trim().matches("(if|for|while|switch|else)\\b.*")) {
                int end = i;
                while (end < lines.length && !lines[end].equals(head.group(1) + "}")) {
                    end++;
                }
                check("long method: " + lines[i].trim(), end - i < LONGEST_METHOD);
            }
        }
    }
}
