import java.lang.reflect.Field;
import java.lang.reflect.Method;
import java.lang.reflect.Modifier;
import java.nio.file.Files;
import java.nio.file.Path;
import java.util.ArrayList;
import java.util.List;
import java.util.Set;
import java.util.TreeSet;
import java.util.regex.Matcher;
import java.util.regex.Pattern;

/** The rules of LANGUAGE.md that can be seen from the class's text and shape. */
final class LanguageTest {
    private static final Checks CHECKS = new Checks();
    /** Rules 2, 4, 6, 12 and 13: what the class has no need of and so must not have. */
    private static final String[] NOT_THERE = {"import", "package", "try", "catch", "finally", "synchronized", "assert",
        "instanceof", "double", "float", "Object", "ArrayList", "System.nanoTime", "System.currentTimeMillis", "Exact",
        "getMessage", "->", "::", "while", "do"};
    /** Rule 4: all that it calls of the library. */
    private static final Set<String> LIBRARY = Set.of("Math.min", "Integer.bitCount", "Integer.numberOfTrailingZeros",
        "Integer.MAX_VALUE", "System.arraycopy");
    private static final Set<String> THROWN = Set.of("ArrayIndexOutOfBoundsException", "IllegalArgumentException");

    public static void main(String[] args) throws Exception {
        String program = withoutRemarks(Files.readString(Path.of("src/main/java/SeedMakers.java")));
        wordsAreNotThere(program);
        libraryIsListed(program);
        throwsAreNamed(program);
        onlyConstructorsMake(program);
        List<Class<?>> classes = new ArrayList<>(List.of(SeedMakers.class.getDeclaredClasses()));
        classes.add(SeedMakers.class);
        CHECKS.holds("rule 11: classes", classes.size() <= 12);
        for (Class<?> type : classes) {
            fieldsAreFew(type);
            methodsAreSmall(type);
        }
        CHECKS.end();
    }

    private static String withoutRemarks(String program) {
        return program.replaceAll("(?s)/\\*.*?\\*/", "").replaceAll("//[^\n]*", "").replaceAll("\"[^\"\n]*\"", "\"\"");
    }

    private static void wordsAreNotThere(String program) {
        for (String word : NOT_THERE) {
            boolean letters = Character.isLetter(word.charAt(0));
            String looked = letters ? "\\b" + Pattern.quote(word) + "\\b" : Pattern.quote(word);
            CHECKS.fails(word, Pattern.compile(looked).matcher(program).find());
        }
        CHECKS.fails("rule 10: texts are not joined by +", program.contains("\"\" +") || program.contains("+ \"\""));
    }

    private static void libraryIsListed(String program) {
        Matcher call = Pattern.compile("\\b(Math|Integer|Long|System|Arrays|String|Character)\\.\\w+").matcher(program);
        while (call.find()) {
            CHECKS.holds("rule 4: " + call.group(), LIBRARY.contains(call.group()));
        }
    }

    /** Rule 6, and the document, which alone names ArrayIndexOutOfBoundsException: the face alone throws. */
    private static void throwsAreNamed(String program) {
        Matcher thrown = Pattern.compile("\\bthrow\\b([^;]*);").matcher(program);
        int inside = program.indexOf("static final class");
        while (thrown.find()) {
            Matcher form = Pattern.compile(" new (\\w+)\\(\"\"\\)").matcher(thrown.group(1));
            CHECKS.holds("rule 6: " + thrown.group(), form.matches() && THROWN.contains(form.group(1)));
            CHECKS.holds("the face throws", thrown.start() < inside);
        }
    }

    /** Rule 12: no call leaves anything behind, so what a run makes does not grow with its calls. */
    private static void onlyConstructorsMake(String program) {
        Set<String> names = new TreeSet<>();
        for (Class<?> inside : SeedMakers.class.getDeclaredClasses()) {
            names.add(inside.getSimpleName());
        }
        String maker = "";
        for (String line : program.split("\n")) {
            if (line.matches(" {4}(    )?[\\w\\[\\] ]*\\w+\\([^;]*\\{")) {
                maker = line.trim().replaceAll("^public ", "").replaceAll("\\(.*", "");
            }
            if (line.contains(" new ") && !line.contains("throw new ")) {
                CHECKS.holds("rule 12: " + maker + " makes", maker.equals("SeedMakers") || names.contains(maker));
            }
        }
    }

    private static void fieldsAreFew(Class<?> type) {
        int own = 0;
        for (Field field : type.getDeclaredFields()) {
            if (Modifier.isStatic(field.getModifiers())) {
                boolean plain = field.getType() == int.class || field.getType() == long.class;
                CHECKS.holds("rule 5: " + field, Modifier.isFinal(field.getModifiers()) && plain);
            } else {
                own++;
            }
        }
        CHECKS.holds("rule 11: fields of " + type, own <= 20);
    }

    private static void methodsAreSmall(Class<?> type) {
        Set<String> face = new TreeSet<>();
        for (Method method : SeedMakers.class.getMethods()) {
            face.add(method.getName());
        }
        for (Method method : type.getDeclaredMethods()) {
            CHECKS.holds("rule 11: parameters of " + method, method.getParameterCount() <= 7);
            boolean isPublic = Modifier.isPublic(method.getModifiers());
            CHECKS.holds("rule 1: the name of " + method, isPublic || !face.contains(method.getName()));
        }
    }
}
