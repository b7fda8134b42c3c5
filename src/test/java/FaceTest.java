import java.io.IOException;
import java.lang.reflect.Constructor;
import java.lang.reflect.Field;
import java.lang.reflect.Method;
import java.lang.reflect.Modifier;
import java.nio.file.Files;
import java.nio.file.Path;
import java.util.Arrays;
import java.util.Set;
import java.util.TreeSet;
import java.util.regex.Matcher;
import java.util.regex.Pattern;

/** The public face, and what LANGUAGE.md rules out as far as it can be seen from outside. Run at the project's root. */
public final class FaceTest {
    private static final String FACE = "feed(int)int school()int pupil(int,int,int,int)int of(int,int)int "
        + "row(int,int,int)int will(int,int)int out(int,boolean)int told(int)int mark(int,int)int pass(int)int "
        + "on(int,int)int ready()int spread(int)int nearest()int throwOut()int alone(int)int team(int,int)int "
        + "split(int)int part(int,int)long see(int,int)int skilled(int,int)int firm(int,int)int "
        + "odds(int,int,int)long mean(int,int)long plan(int,int)int done(int)int book(int,int)int looked()int "
        + "act(int,int,int)int trace(int)int as(int,int)int image()int undo()int count(int)int";
    private static final String CONSTANTS = "NONE=-1 BAD=-2 STATE=-3 FULL=-4 NO=" + Long.MIN_VALUE;
    private static final String[] RULED_OUT = {
        "\\bthrow\\b", "\\btry\\b", "\\bcatch\\b", "\\bsynchronized\\b", "\\bassert\\b", "\\bimport\\b", "\\bpackage\\b",
        "->", "::", "\\w+Exact\\b", "static \\{", "\\bdouble\\b", "\\bfloat\\b", "\\+ *\"", "\" *\\+", "\\bSystem\\.out",
        "\\bhashCode\\b", "\\btoString\\b", "\\bObject\\b", "[^\\x00-\\x7e]",
    };

    /** Its indent, the words ahead of its name, its name, its parameters, its body. */
    private static final Pattern METHOD = Pattern.compile("(?ms)^( {4,8})((?:[\\w\\[\\]]+ )+)(\\w+)\\(([^)]*)\\) \\{\n(.*?)^\\1\\}");

    public static void main(String[] args) throws IOException, IllegalAccessException {
        face();
        insides();
        source();
        methods();
        Check.end();
    }

    private static void same(String what, Object got, Object want) {
        Check.due(what + ": " + got + " for " + want, got.equals(want) ? 1 : 0, 1);
    }

    private static void face() throws IllegalAccessException {
        Set<String> methods = new TreeSet<>();
        for (Method m : OneDidAll.class.getDeclaredMethods()) {
            if (Modifier.isPrivate(m.getModifiers()) || m.isSynthetic()) continue;
            String types = Arrays.toString(m.getParameterTypes()).replaceAll("[\\[\\] ]", "");
            methods.add(m.getName() + "(" + types + ")" + m.getReturnType());
            Check.due(m.getName() + " is public", m.getModifiers(), Modifier.PUBLIC);
        }
        same("the methods", methods, new TreeSet<>(Arrays.asList(FACE.split(" "))));
        Set<String> constants = new TreeSet<>();
        for (Field f : OneDidAll.class.getDeclaredFields()) {
            if (!Modifier.isPrivate(f.getModifiers())) constants.add(f.getName() + "=" + f.get(null));
        }
        same("the constants", constants, new TreeSet<>(Arrays.asList(CONSTANTS.split(" "))));
        Constructor<?>[] constructors = OneDidAll.class.getDeclaredConstructors();
        Check.due("constructors", constructors.length, 1);
        Check.due("the constructor is public", constructors[0].getModifiers(), Modifier.PUBLIC);
        Check.due("the class is public and final", OneDidAll.class.getModifiers(), Modifier.PUBLIC | Modifier.FINAL);
    }

    private static void insides() {
        Class<?>[] insides = OneDidAll.class.getDeclaredClasses();
        Check.due("some twelve classes at most", insides.length <= 11 ? 1 : 0, 1);
        Set<String> names = new TreeSet<>();
        for (String one : FACE.split(" ")) names.add(one.substring(0, one.indexOf('(')));
        for (Class<?> c : insides) {
            Check.due(c + " is static", Modifier.isStatic(c.getModifiers()) ? 1 : 0, 1);
            Check.due(c + " is not public", c.getModifiers() & (Modifier.PUBLIC | Modifier.PROTECTED), 0);
            long fields = 0;
            for (Field f : c.getDeclaredFields()) {
                if (!Modifier.isStatic(f.getModifiers())) fields++;
                else Check.due(f + " is final", Modifier.isFinal(f.getModifiers()) ? 1 : 0, 1);
            }
            Check.due(c + " has some twenty fields at most", fields <= 20 ? 1 : 0, 1);
            for (Method m : c.getDeclaredMethods()) {
                Check.due(m + " bears no name of the face", names.contains(m.getName()) ? 1 : 0, 0);
            }
        }
        for (Method m : OneDidAll.class.getDeclaredMethods()) {
            Check.due(m + " has seven parameters at most", m.getParameterCount() <= 7 ? 1 : 0, 1);
            if (!Modifier.isPrivate(m.getModifiers())) continue;
            Check.due(m + " bears no name of the face", names.contains(m.getName()) ? 1 : 0, 0);
        }
    }

    private static void source() throws IOException {
        String text = Files.readString(Path.of("src/main/java/OneDidAll.java"));
        String code = text.replaceAll("(?s)/\\*.*?\\*/", "").replaceAll("//[^\n]*", "");
        for (String one : RULED_OUT) {
            Check.due("the source holds " + one, Pattern.compile(one).matcher(code).find() ? 1 : 0, 0);
        }
        Check.due("the source is of signs 1 to 126", text.chars().allMatch(c -> c < 127) ? 1 : 0, 1);
    }

    /** LANGUAGE.md, rules 8 and 11: one that calls itself is private and carries its depth; methods are short. */
    private static void methods() throws IOException {
        String code = Files.readString(Path.of("src/main/java/OneDidAll.java"));
        Matcher method = METHOD.matcher(code);
        int methods = 0;
        int recursive = 0;
        while (method.find()) {
            methods++;
            String name = method.group(3);
            String body = method.group(5);
            Check.due(name + " is of some sixty lines at most", body.lines().count() <= 60 ? 1 : 0, 1);
            if (!Pattern.compile("(?<![.\\w])" + name + "\\(").matcher(body).find()) continue;
            recursive++;
            Check.due(name + " is private", method.group(2).startsWith("private ") ? 1 : 0, 1);
            Check.due(name + " carries its depth", method.group(4).matches(".*int (open|deep)") ? 1 : 0, 1);
        }
        Check.due("methods were found", methods > 80 ? 1 : 0, 1);
        Check.due("methods that call themselves", recursive, 4);
    }
}
