import java.io.ByteArrayOutputStream;
import java.io.IOException;
import java.io.PrintStream;
import java.lang.reflect.Method;
import java.lang.reflect.Modifier;
import java.net.URL;
import java.net.URLClassLoader;
import java.nio.file.Files;
import java.nio.file.Path;
import javax.tools.ToolProvider;

/** What README.md tells of the use: its example, its texts, and that no public method is left out. */
public final class ReadmeTest extends DeskCase {
    public static void main(String[] args) throws Exception {
        String readme = Files.readString(Path.of("README.md"));
        due("the example's output", outputOf(block(readme, "java")), block(readme, "text"));
        everyMethodIsTold(readme);
        textsAreTaken(readme);
        VERDICT.end();
    }

    private static void everyMethodIsTold(String readme) {
        for (Method method : ChainDesk.class.getDeclaredMethods()) {
            if (Modifier.isPublic(method.getModifiers())) {
                due("told: " + method.getName(), readme.contains("\n| `" + method.getName() + "("), true);
            }
        }
    }

    private static void textsAreTaken(String readme) {
        Desk x = new Desk();
        due("a class", x.declare(told(readme, "A{x:int;m(int,B):A;static s:A;new(long)}")), 4);
        due("a class below it", x.declare(told(readme, "B:A{private p():bool}")), 1);
        due("a variable", x.variable(told(readme, "a:A")), 1);
        due("another variable", x.variable("b:B"), 2);
        due("an expression", x.check(told(readme, "new A(a.x).m(A.s.x,b).x")), INT);
        due("its cost", x.desk.checkedCost(), 6);
    }

    private static String told(String readme, String text) {
        due("told: " + text, readme.contains("| `" + text + "` |"), true);
        return text;
    }

    /** What stands in the first block of that kind. */
    private static String block(String readme, String kind) {
        String opening = "```" + kind + "\n";
        int from = readme.indexOf(opening) + opening.length();
        return readme.substring(from, readme.indexOf("```", from));
    }

    private static String outputOf(String program) throws Exception {
        Path folder = Files.createTempDirectory("readme");
        Path source = folder.resolve("Example.java");
        try {
            Files.writeString(source, program);
            int compiled = ToolProvider.getSystemJavaCompiler().run(null, null, null,
                    "-cp", System.getProperty("java.class.path"), "-d", folder.toString(), source.toString());
            return compiled == 0 ? printed(folder) : "does not compile";
        } finally {
            remove(folder);
        }
    }

    private static String printed(Path folder) throws Exception {
        ByteArrayOutputStream bytes = new ByteArrayOutputStream();
        PrintStream before = System.out;
        try (URLClassLoader loader = new URLClassLoader(new URL[] {folder.toUri().toURL()})) {
            System.setOut(new PrintStream(bytes, true));
            loader.loadClass("Example").getMethod("main", String[].class).invoke(null, (Object) new String[0]);
        } finally {
            System.setOut(before);
        }
        return bytes.toString().replace(System.lineSeparator(), "\n");
    }

    private static void remove(Path folder) throws IOException {
        for (String name : new String[] {"Example.java", "Example.class"}) {
            Files.deleteIfExists(folder.resolve(name));
        }
        Files.delete(folder);
    }
}
