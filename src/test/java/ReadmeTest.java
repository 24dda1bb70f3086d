import java.io.ByteArrayOutputStream;
import java.io.IOException;
import java.io.PrintStream;
import java.lang.reflect.Method;
import java.net.URL;
import java.net.URLClassLoader;
import java.nio.file.Files;
import java.nio.file.Path;
import java.util.Arrays;
import java.util.stream.Collectors;
import javax.tools.ToolProvider;

/** README.md names the constructor and each method of the face as they are, and its program prints what it says. */
final class ReadmeTest {
    private static final Checks CHECKS = new Checks();

    public static void main(String[] args) throws Exception {
        String readme = Files.readString(Path.of("README.md"));
        CHECKS.holds("the constructor is told", readme.contains("\n- `SeedMakers(int kind)`: "));
        for (Method method : SeedMakers.class.getDeclaredMethods()) {
            String told = "\n- `" + method.getReturnType() + " " + method.getName() + "(";
            int at = readme.indexOf(told);
            CHECKS.holds(method.getName() + " is told", at >= 0);
            if (at >= 0) {
                int from = at + told.length();
                CHECKS.alike(method.getName(), typesOf(readme.substring(from, readme.indexOf(')', from))),
                        Arrays.stream(method.getParameterTypes()).map(Class::getName).collect(Collectors.joining(" ")));
            }
        }
        CHECKS.holds("how to run the tests", readme.contains("\n    .ci/run\n"));
        for (String file : new java.io.File("src/test/java").list()) {
            String name = file.replace(".java", "");
            CHECKS.holds(name + " is told", !name.endsWith("Test") || readme.contains("`" + name + "`"));
        }
        CHECKS.alike("what the program prints", printedBy(blockOf(readme, "java")), blockOf(readme, "text"));
        CHECKS.end();
    }

    private static String typesOf(String parameters) {
        return Arrays.stream(parameters.split(", ")).map(p -> p.split(" ")[0]).collect(Collectors.joining(" "));
    }

    private static String blockOf(String readme, String language) {
        String opening = "\n```" + language + "\n";
        int from = readme.indexOf(opening) + opening.length();
        return readme.substring(from, readme.indexOf("```\n", from));
    }

    private static String printedBy(String program) throws Exception {
        Path place = Files.createTempDirectory("readme");
        Path source = Files.writeString(place.resolve("Example.java"), program);
        int rc = ToolProvider.getSystemJavaCompiler().run(null, null, null, "-cp", System.getProperty("java.class.path"),
                "-d", place.toString(), source.toString());
        CHECKS.same("the program is compiled", rc, 0);
        PrintStream before = System.out;
        ByteArrayOutputStream printed = new ByteArrayOutputStream();
        System.setOut(new PrintStream(printed, true));
        try (URLClassLoader loader = new URLClassLoader(new URL[] {place.toUri().toURL()})) {
            loader.loadClass("Example").getMethod("main", String[].class).invoke(null, (Object) new String[0]);
        } finally {
            System.setOut(before);
            remove(place);
        }
        return printed.toString().replace("\r\n", "\n");
    }

    private static void remove(Path place) throws IOException {
        for (String name : place.toFile().list()) {
            Files.delete(place.resolve(name));
        }
        Files.delete(place);
    }
}
