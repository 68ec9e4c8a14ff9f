import java.lang.reflect.Constructor;
import java.lang.reflect.Field;
import java.lang.reflect.Method;
import java.lang.reflect.Modifier;
import java.nio.file.Files;
import java.nio.file.Path;
import java.util.Set;
import java.util.TreeSet;
import java.util.regex.Matcher;
import java.util.regex.Pattern;

/** The document's face, and the rules of LANGUAGE.md that can be seen from outside or in the text. */
public final class LanguageTest {
    private static final Set<String> FACE = new TreeSet<>(Set.of(
        "int write(long,int)", "int erase()", "int assemble()", "int line()", "int symbol(long)", "int step(int)",
        "boolean go(int)", "int poke(int,int)", "int word(int)", "int register(int)", "int card(int,int,int,int)",
        "int printed(int,int)", "int tape(int,int)", "int state(int)"));

    public static void main(String[] args) throws Exception {
        face();
        text(Files.readString(Path.of("src/main/java/MixMachine.java")));
        Check.end();
    }

    private static void face() {
        Set<String> found = new TreeSet<>();
        Set<String> names = new TreeSet<>();
        for (Method method : MixMachine.class.getDeclaredMethods()) {
            if (!Modifier.isPrivate(method.getModifiers())) {
                Check.same(method + " is public", Modifier.isPublic(method.getModifiers()), true);
                String parameters = java.util.Arrays.toString(method.getParameterTypes()).replaceAll("[\\[\\] ]", "");
                found.add(method.getReturnType() + " " + method.getName() + "(" + parameters + ")");
                names.add(method.getName());
            }
        }
        Check.same("the face is " + found, found.equals(FACE), true);
        for (Field field : MixMachine.class.getDeclaredFields()) {
            Check.same(field + " is private", Modifier.isPrivate(field.getModifiers()), !field.getName().equals("NONE"));
        }
        Constructor<?>[] constructors = MixMachine.class.getDeclaredConstructors();
        Check.same("constructors", constructors.length, 1);
        Check.same("it is final", Modifier.isFinal(MixMachine.class.getModifiers()), true);
        Class<?>[] inside = MixMachine.class.getDeclaredClasses();
        Check.same("at most twelve classes", inside.length < 12, true);
        for (Class<?> one : inside) {
            Check.same(one + " is static", Modifier.isStatic(one.getModifiers()), true);
            for (Method method : one.getDeclaredMethods()) {
                Check.same(method + " has a name of the face", names.contains(method.getName()), false);
            }
        }
    }

    private static void text(String source) {
        String code = source.replaceAll("(?s)/\\*.*?\\*/", "").replaceAll("//[^\n]*", "").replaceAll("\"[^\"\n]*\"", "\"\"");
        String[] forbidden = {"->", "::", "\\btry\\b", "\\bfinally\\b", "\\bsynchronized\\b", "\\bassert\\b", "\\bprotected\\b", "\\bSystem\\.(?!arraycopy)",
            "\\bObject\\b", "\\bthread\\b", "\\bstatic\\s*\\{", "\\bpackage\\b", "\\bvar\\b", "Exact\\b", "\\bdouble\\b", "\\bfloat\\b", "\\bfor \\(;;"};
        for (String pattern : forbidden) {
            Matcher matcher = Pattern.compile(pattern).matcher(code);
            Check.same(pattern + " in the program", matcher.find(), false);
        }
        Matcher imports = Pattern.compile("import ([\\w.]+);").matcher(code);
        while (imports.find()) {
            Check.same(imports.group(1) + " is imported", Set.of("java.util.Arrays", "java.util.NoSuchElementException").contains(imports.group(1)), true);
        }
        Matcher statics = Pattern.compile("\\bstatic (?!final\\b|boolean \\w+\\(|int \\w+\\(|long \\w+\\()[^\n]*").matcher(code);
        while (statics.find()) {
            Check.same(statics.group() + " is no final field and no function", false, true);
        }
    }
}
