import java.io.File;
import java.lang.reflect.Method;
import java.lang.reflect.Modifier;
import java.nio.file.Files;
import java.nio.file.Path;

/** README.md: its example answers what it says there, and it names every call and every test. */
public final class ReadmeTest {
    public static void main(String[] args) throws Exception {
        String readme = Files.readString(Path.of("README.md"));
        example(readme);
        calls(readme);
        tests(readme);
        Check.end();
    }

    private static void example(String readme) {
        MixMachine m = new MixMachine();
        String text = " ENTA 5\nS ADD =7=\n HLT\n END 0";
        names(readme, "String text = \"" + text.replace("\n", "\\n") + "\";");
        for (int i = 0; i < text.length(); i++) {
            m.write(text.charAt(i), 1);
        }
        names(readme, "m.assemble();      // " + m.assemble() + ", ");
        names(readme, "m.symbol('S');     // " + m.symbol('S') + ": ");
        names(readme, "m.step(100);       // " + m.step(100) + ": ");
        names(readme, "m.register(0);     // " + m.register(0) + ": ");
        names(readme, "m.state(4);        // " + m.state(4) + ": ");
    }

    private static void calls(String readme) {
        for (Method method : MixMachine.class.getDeclaredMethods()) {
            if (Modifier.isPublic(method.getModifiers())) {
                String row = rowOf(readme, "| `" + method.getName() + "(");
                for (Class<?> exception : method.getExceptionTypes()) {
                    names(row, "`" + exception.getSimpleName() + "`");
                }
            }
        }
    }

    private static String rowOf(String readme, String beginning) {
        names(readme, beginning);
        int from = Math.max(0, readme.indexOf(beginning));
        return readme.substring(from, readme.indexOf('\n', from));
    }

    private static void tests(String readme) {
        File[] files = new File("src/test/java").listFiles();
        for (File file : files == null ? new File[0] : files) {
            names(readme, "`" + file.getName().replace(".java", "") + "`");
        }
    }

    private static void names(String text, String words) {
        Check.same("README.md or a row of it has " + words, text.contains(words), true);
    }
}
