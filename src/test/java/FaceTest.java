import java.io.IOException;
import java.lang.reflect.Constructor;
import java.lang.reflect.Field;
import java.lang.reflect.Method;
import java.lang.reflect.Modifier;
import java.nio.file.Files;
import java.nio.file.Path;
import java.util.ArrayList;
import java.util.Arrays;
import java.util.List;
import java.util.Set;
import java.util.TreeSet;
import java.util.regex.Matcher;
import java.util.regex.Pattern;

/** The public face of the class, and the parts of LANGUAGE.md that a look at the source can tell. */
public final class FaceTest {
    private static final Path SOURCE = Path.of("src/main/java/MoodPlayer.java");
    private static final String[] FACE = {
        "boolean goOn(int) throws IllegalArgumentException",
        "boolean keep(int) throws IllegalArgumentException",
        "boolean play(int) throws NoSuchElementException",
        "int ask(int) throws IllegalArgumentException",
        "int joint(int, int, int, int) throws NoSuchElementException",
        "int lacks(int, int) throws NoSuchElementException, IllegalArgumentException",
        "int layer(int, int) throws NoSuchElementException",
        "int leave()",
        "int level(int) throws NoSuchElementException",
        "int now(int) throws NoSuchElementException",
        "int piece(int, int, int, int, int)",
        "int price(int, int) throws IllegalArgumentException",
        "int sting(int) throws NoSuchElementException",
        "int way(int) throws NoSuchElementException",
        "long cost()",
        "long go(int) throws IllegalArgumentException",
        "long log(int, int) throws NoSuchElementException",
        "long reach(int, int) throws NoSuchElementException, IllegalArgumentException"};
    /** Words that no line of the class may hold outside its comments. */
    private static final String[] RULED_OUT = {
        "->", "::", "finally", "synchronized", "assert ", "catch", "Exact(", "protected", "System.out", "Random",
        "java.io", "java.time", "currentTime", "nanoTime", "Thread", "hashCode", "toString", "while (true)"};
    /** What the class may take of the library, of all that LANGUAGE.md's rule 4 lists. */
    private static final Set<String> LIBRARY = Set.of("Math.min", "Arrays.fill", "System.arraycopy");
    /** The lines of a method that LANGUAGE.md's rule 11 has in mind. */
    private static final int MOST_LINES = 60;
    private static int wrong = 0;

    public static void main(String[] args) throws IOException {
        face();
        members(MoodPlayer.class);
        names();
        String text = Files.readString(SOURCE).replaceAll("(?s)/\\*.*?\\*/", "").replaceAll("//[^\n]*", "");
        words(text);
        library(text);
        statics();
        lengths(text);
        if (wrong > 0) {
            System.exit(1);
        }
        System.out.println("the face is the document's");
    }

    private static void check(String what, Object got, Object due) {
        if (!String.valueOf(got).equals(String.valueOf(due))) {
            wrong++;
            System.out.println(what + ": " + got + ", due is " + due);
        }
    }

    private static String list(Class<?>[] types) {
        List<String> names = new ArrayList<>();
        for (Class<?> type : types) {
            names.add(type.getSimpleName());
        }
        return String.join(", ", names);
    }

    private static void face() {
        TreeSet<String> methods = new TreeSet<>();
        for (Method m : MoodPlayer.class.getDeclaredMethods()) {
            if (!Modifier.isPrivate(m.getModifiers())) {
                String thrown = list(m.getExceptionTypes());
                methods.add(m.getReturnType() + " " + m.getName() + "(" + list(m.getParameterTypes()) + ")"
                    + (thrown.isEmpty() ? "" : " throws " + thrown));
                check(m.getName() + " is public and not static", m.getModifiers(), Modifier.PUBLIC);
            }
        }
        check("methods", methods, new TreeSet<>(Arrays.asList(FACE)));
        check("the class is public and final", MoodPlayer.class.getModifiers(), Modifier.PUBLIC | Modifier.FINAL);
        Constructor<?>[] constructors = MoodPlayer.class.getDeclaredConstructors();
        check("constructors", constructors.length, 1);
        check("its parameters", constructors[0].getParameterCount(), 0);
        check("it is public", constructors[0].getModifiers(), Modifier.PUBLIC);
    }

    private static void members(Class<?> of) {
        for (Field f : of.getDeclaredFields()) {
            boolean none = f.getName().equals("NONE");
            check(f.getName() + " is private", Modifier.isPrivate(f.getModifiers()), !none);
            check(f.getName() + " is final", Modifier.isFinal(f.getModifiers()), true);
        }
        for (Class<?> inside : of.getDeclaredClasses()) {
            check(inside.getName() + " is static", Modifier.isStatic(inside.getModifiers()), true);
            check(inside.getName() + " is not public", Modifier.isPublic(inside.getModifiers()), false);
        }
        check("classes", of.getDeclaredClasses().length <= 12, true);
    }

    /** No method of a class inside bears the name of one of the face. */
    private static void names() {
        TreeSet<String> face = new TreeSet<>();
        for (String line : FACE) {
            face.add(line.substring(line.indexOf(' ') + 1, line.indexOf('(')));
        }
        for (Class<?> inside : MoodPlayer.class.getDeclaredClasses()) {
            for (Method m : inside.getDeclaredMethods()) {
                check(inside.getName() + "." + m.getName() + " bears a name of the face", face.contains(m.getName()), false);
                check(m.getName() + "'s parameters", m.getParameterCount() <= 7, true);
            }
        }
    }

    private static void words(String text) {
        for (String word : RULED_OUT) {
            check("the source holds " + word, text.contains(word), false);
        }
        for (String line : text.split("\n")) {
            if (line.startsWith("import ")) {
                check(line, line.equals("import java.util.Arrays;")
                    || line.equals("import java.util.NoSuchElementException;"), true);
            }
        }
    }

    /** All that is used by a class's name is the class's own, or of the library that is allowed. */
    private static void library(String text) {
        TreeSet<String> own = new TreeSet<>();
        for (Class<?> inside : MoodPlayer.class.getDeclaredClasses()) {
            own.add(inside.getSimpleName());
        }
        Matcher used = Pattern.compile("\\b([A-Z]\\w*)\\.(\\w+)").matcher(text);
        while (used.find()) {
            boolean allowed = own.contains(used.group(1)) || LIBRARY.contains(used.group());
            check(used.group() + " is allowed", allowed, true);
        }
        Matcher thrown = Pattern.compile("throw\\b(?! new (NoSuchElement|IllegalArgument)Exception\\(\"[^\"]*\"\\);)")
            .matcher(text.replaceAll("\\bthrows\\b", ""));
        check("a throw of another form", thrown.find(), false);
    }

    private static void statics() {
        for (Class<?> inside : MoodPlayer.class.getDeclaredClasses()) {
            int fields = 0;
            for (Field f : inside.getDeclaredFields()) {
                check(inside.getName() + "." + f.getName() + " is static", Modifier.isStatic(f.getModifiers()), false);
                fields++;
            }
            check(inside.getName() + "'s fields", fields <= 20, true);
        }
    }

    /** A method ends at the brace below its own beginning. */
    private static void lengths(String text) {
        String[] lines = text.split("\n");
        for (int i = 0; i < lines.length; i++) {
            Matcher begins = Pattern.compile("( +)[\\w\\[\\], ]+\\(.*\\{").matcher(lines[i]);
            if (begins.matches()) {
                int end = i;
                while (end < lines.length && !lines[end].equals(begins.group(1) + "}")) {
                    end++;
                }
                check(lines[i].trim() + " is short", end - i < MOST_LINES, true);
            }
        }
    }
}
