import java.lang.reflect.Constructor;
import java.lang.reflect.Field;
import java.lang.reflect.Method;
import java.lang.reflect.Modifier;
import java.nio.file.Files;
import java.nio.file.Path;
import java.util.Set;
import java.util.TreeSet;
import java.util.regex.Matcher;
import java.util.regex.Pattern;

/** What can be seen of LANGUAGE.md's rules from the source's text and from the class itself. */
public final class LanguageTests {
    private static int wrong = 0;

    /** What the document's code block has between its braces, a line each, without the last semicolon. */
    private static final Set<String> FACE = new TreeSet<>();

    public static void main(String[] args) throws Exception {
        String source = Files.readString(Path.of("src/main/java/StepsAhead.java"));
        readFace(Files.readString(Path.of("../shared/DOC.md")));
        checkFace(source);
        checkMembersInside();
        checkText(source);
        checkWhatQuestionsMake();
        System.out.println(wrong == 0 ? "the language is kept to" : wrong + " rules are broken");
        if (wrong != 0) {
            System.exit(1);
        }
    }

    private static void must(boolean holds, String rule) {
        if (!holds) {
            wrong++;
            System.out.println("broken: " + rule);
        }
    }

    private static void readFace(String document) {
        Matcher block = Pattern.compile("(?s)```java\\s*public final class StepsAhead \\{(.*?)\\}\\s*```").matcher(document);
        must(block.find(), "the document has a face");
        for (String line : block.group(1).split(";")) {
            if (!line.isBlank()) {
                FACE.add(line.trim());
            }
        }
        must(FACE.size() == 23, "constants, a constructor and 21 methods: " + FACE);
    }

    private static void checkFace(String source) {
        must(source.contains("public final class StepsAhead {"), "the class is public and final");
        for (String line : FACE) {
            must(source.contains("    " + line + (line.endsWith(")") ? " {" : ";")), "as the document has it: " + line);
        }
        Set<String> open = new TreeSet<>();
        for (Method method : StepsAhead.class.getDeclaredMethods()) {
            if (Modifier.isPrivate(method.getModifiers())) {
                must(!isOfFace(method.getName()), "a private method with the name of a public one: " + method);
            } else {
                must(method.getModifiers() == Modifier.PUBLIC, "a method that is neither public nor private: " + method);
                must(open.add(method.getName()) && isOfFace(method.getName()), "a method that the document has not: " + method);
            }
        }
        must(open.size() == 21, "the document's methods: " + open);
        for (Field field : StepsAhead.class.getDeclaredFields()) {
            boolean constant = Set.of("NONE", "BAD", "STATE", "FULL", "SPENT", "KIND").contains(field.getName());
            int due = constant ? Modifier.PUBLIC : Modifier.PRIVATE;
            must((field.getModifiers() & due) != 0, "a field that is seen outside: " + field);
        }
        Constructor<?>[] constructors = StepsAhead.class.getDeclaredConstructors();
        must(constructors.length == 1 && constructors[0].getParameterCount() == 0, "one constructor");
    }

    private static boolean isOfFace(String name) {
        return FACE.stream().anyMatch(line -> line.contains(" " + name + "("));
    }

    private static void checkMembersInside() {
        Class<?>[] inside = StepsAhead.class.getDeclaredClasses();
        must(inside.length < 12, "some twelve classes");
        for (Class<?> one : inside) {
            must(Modifier.isStatic(one.getModifiers()) && Modifier.isPrivate(one.getModifiers()), "private and static: " + one);
            must(one.getDeclaredFields().length < 20, "some twenty fields: " + one);
            for (Field field : one.getDeclaredFields()) {
                must(!Modifier.isStatic(field.getModifiers()) || Modifier.isFinal(field.getModifiers()), "static and not final: " + field);
            }
            for (Method method : one.getDeclaredMethods()) {
                must(method.getParameterCount() <= 7, "seven parameters: " + method);
                must(!isOfFace(method.getName()), "a name of the face inside: " + method);
            }
        }
    }

    private static void checkText(String source) {
        String code = source.replaceAll("(?s)/\\*.*?\\*/", "").replaceAll("//[^\n]*", "");
        for (String word : new String[] {"throw", "throws", "try", "catch", "synchronized", "assert", "package", "equals",
            "hashCode", "toString", "System", "Object", "Thread", "Random", "double", "float", "protected"}) {
            must(!Pattern.compile("\\b" + word + "\\b").matcher(code).find(), "a word that is not there: " + word);
        }
        must(!code.contains("->") && !code.contains("::"), "no lambdas, no method references");
        must(!code.contains("\""), "no texts");
        Matcher imported = Pattern.compile("import ([^;]*);").matcher(code);
        while (imported.find()) {
            must(imported.group(1).equals("java.util.Arrays"), "an import: " + imported.group(1));
        }
        Matcher library = Pattern.compile("\\b(Arrays|Math|Integer|Long)\\.(\\w+)").matcher(code);
        while (library.find()) {
            must(Set.of("fill", "max", "min", "abs", "floorDiv").contains(library.group(2)), "of the library: " + library.group());
        }
    }

    /** All that a question needs is made ahead of it: 400 questions make next to nothing. */
    private static void checkWhatQuestionsMake() {
        StepsAhead x = new StepsAhead();
        for (int r = 0; r < 8; r++) {
            x.routine();
            x.expression(0, 1, 1, 0, 0, 0, 0);
            x.expression(1, 0, 0, 1, 0, 0, 0);
            x.loop(r);
            x.either(r);
            x.call(r, r - 1);
            x.close(r, 7);
            x.close(r, 8);
            x.close(r, 6);
        }
        long before = bytesMade();
        for (int i = 0; i < 50; i++) {
            x.value(i % 8, 1, i % 21, 3);
            x.worth(i % 8, 2, 2, i % 5);
            x.terms(i % 8, 0);
            x.sure(i % 8);
            x.count(3);
            x.ask(i % 8, 0, 1);
            x.allowed(i % 8, 1, 1, 1000);
            x.back(i % 8);
        }
        long made = bytesMade() - before;
        must(made < 20000, "400 questions made " + made + " bytes");
    }

    private static long bytesMade() {
        java.lang.management.ThreadMXBean threads = java.lang.management.ManagementFactory.getThreadMXBean();
        if (threads instanceof com.sun.management.ThreadMXBean counting) {
            return counting.getThreadAllocatedBytes(Thread.currentThread().getId());
        }
        return 0;
    }
}
