import java.io.IOException;
import java.lang.reflect.Constructor;
import java.lang.reflect.Field;
import java.lang.reflect.Method;
import java.lang.reflect.Modifier;
import java.nio.file.Files;
import java.nio.file.Path;
import java.util.Arrays;
import java.util.List;
import java.util.TreeSet;
import java.util.regex.Matcher;
import java.util.regex.Pattern;

/** The public face, and the rules of LANGUAGE.md that a short look can check. */
final class FaceTests {
    private static final List<String> METHODS = List.of("int write(int, int, long, int)",
        "int replica(int, int, int, int, long)", "int fill()", "long get(int)", "int known(int, int)",
        "int refresh()", "int sync(boolean)", "int flush()", "int crash(int)", "int recover(int)",
        "int flip(int, int, int)", "int ask(int, int, int)", "int hit(int, int)", "int after(int, int, int)",
        "int score(int)", "int info(int)");
    private static final List<String> CONSTANTS = List.of("REFUSED", "CONFLICT", "FULL", "DOWN", "CORRUPT");

    private FaceTests() {
    }

    static void run() {
        Check.test("the public face", FaceTests::face);
        Check.test("LANGUAGE rule 1: no private method bears a public one's name", FaceTests::names);
        Check.test("LANGUAGE rules 4 and 6: words that are left out", FaceTests::words);
    }

    private static void face() {
        Class<?> c = ShardEngine.class;
        Check.due("public final", c.getModifiers(), Modifier.PUBLIC | Modifier.FINAL);
        Constructor<?>[] constructors = c.getDeclaredConstructors();
        Check.due("constructors", constructors.length, 1);
        Check.holds("it is public and takes nothing", Modifier.isPublic(constructors[0].getModifiers())
            && constructors[0].getParameterCount() == 0);
        TreeSet<String> methods = new TreeSet<>();
        for (Method m : c.getDeclaredMethods()) {
            if (!Modifier.isPrivate(m.getModifiers())) {
                String parameters = Arrays.toString(m.getParameterTypes()).replace("[", "(").replace("]", ")");
                methods.add(m.getReturnType() + " " + m.getName() + parameters);
                Check.due(m.getName(), m.getModifiers(), Modifier.PUBLIC);
            }
        }
        Check.holds("methods: " + methods, methods.equals(new TreeSet<>(METHODS)));
        TreeSet<String> fields = new TreeSet<>();
        for (Field f : c.getDeclaredFields()) {
            if (!Modifier.isPrivate(f.getModifiers())) {
                fields.add(f.getName());
                Check.due(f.getName(), f.getModifiers(), Modifier.PUBLIC | Modifier.STATIC | Modifier.FINAL);
            }
        }
        Check.holds("constants: " + fields, fields.equals(new TreeSet<>(CONSTANTS)));
        for (Class<?> inside : c.getDeclaredClasses()) {
            Check.holds(inside.getName() + " is static", Modifier.isStatic(inside.getModifiers()));
            Check.holds(inside.getName() + " is not public", !Modifier.isPublic(inside.getModifiers()));
        }
    }

    private static void names() {
        TreeSet<String> faced = new TreeSet<>();
        for (String method : METHODS) {
            faced.add(method.substring(method.indexOf(' ') + 1, method.indexOf('(')));
        }
        for (Class<?> inside : ShardEngine.class.getDeclaredClasses()) {
            for (Method m : inside.getDeclaredMethods()) {
                Check.holds(inside.getName() + "." + m.getName(), !faced.contains(m.getName()));
            }
        }
        for (Method m : ShardEngine.class.getDeclaredMethods()) {
            Check.holds(m.getName(), Modifier.isPublic(m.getModifiers()) || !faced.contains(m.getName()));
        }
    }

    private static void words() {
        Pattern left = Pattern.compile("\\b(import|package|synchronized|assert|finally|try|catch|throw|volatile|"
            + "native|transient|var|yield|System\\.(?!arraycopy)\\w+|Random|Thread)\\b|->|::|Exact\\(|\"");
        Matcher found = left.matcher(code());
        Check.holds("no word that is left out", !found.find());
    }

    /** The program without its comments. */
    private static String code() {
        try {
            String text = Files.readString(Path.of("src/main/java/ShardEngine.java"));
            return text.replaceAll("(?s)/\\*.*?\\*/", "").replaceAll("//[^\n]*", "");
        } catch (IOException e) {
            throw new IllegalStateException("the tests run in the project's folder", e);
        }
    }
}
