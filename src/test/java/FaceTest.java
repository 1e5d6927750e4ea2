import java.lang.reflect.Constructor;
import java.lang.reflect.Field;
import java.lang.reflect.Method;
import java.lang.reflect.Modifier;
import java.nio.file.Files;
import java.nio.file.Path;
import java.util.Arrays;
import java.util.HashSet;
import java.util.Set;
import java.util.TreeSet;
import java.util.regex.Matcher;
import java.util.regex.Pattern;

/** The public face, no more and no less, and those rules of LANGUAGE.md that can be read off the class and its source. */
public final class FaceTest {
    private static final String[] FACE = {
        "int status()", "boolean sheet(int, int, int)", "boolean write(int, int, long)", "long read(int, int)",
        "boolean drop(int)", "boolean copy(int, int, int, int, int)", "boolean none()", "int machine(int, int)",
        "boolean up(int, boolean)", "int ask(int, int, int)", "boolean apart(int, int, boolean)", "int count(int)",
        "int fits(int, int)", "int on(int, int, int)", "int lack(int, int)", "int left(int, int)", "int enough(int)",
        "int batch(int, int, int, int)", "int rest(int)", "int part(int, int, int)",
        "int line(int, int, int, int, int)", "int hands(int, int, int, int)", "boolean wanted(int)",
        "boolean have(int)", "int type(int, int, int, int)", "int cheapest()", "int buys(int, int)",
    };
    private static int wrong = 0;

    private static void due(String what, boolean holds) {
        if (!holds) {
            wrong++;
            System.out.println("not so: " + what);
        }
    }

    public static void main(String[] args) throws Exception {
        face();
        Set<String> faceNames = new HashSet<>();
        for (String line : FACE) {
            faceNames.add(line.replaceAll("^\\S+ (\\w+).*", "$1"));
        }
        inside(MachineHall.class, faceNames);
        for (Class<?> c : MachineHall.class.getDeclaredClasses()) {
            due(c + " is static", Modifier.isStatic(c.getModifiers()));
            due(c + " is not public", !Modifier.isPublic(c.getModifiers()) && !Modifier.isProtected(c.getModifiers()));
            inside(c, faceNames);
        }
        source();
        System.out.println("FaceTest: " + wrong + " wrong");
        if (wrong != 0) {
            System.exit(1);
        }
    }

    private static void face() throws Exception {
        Class<?> c = MachineHall.class;
        due("public and final", Modifier.isPublic(c.getModifiers()) && Modifier.isFinal(c.getModifiers()));
        Set<String> found = new TreeSet<>();
        for (Method m : c.getDeclaredMethods()) {
            if (!Modifier.isPrivate(m.getModifiers())) {
                String types = Arrays.toString(m.getParameterTypes()).replaceAll("[\\[\\]]", "");
                found.add(m.getReturnType() + " " + m.getName() + "(" + types + ")");
                due(m + " is public and not static", Modifier.isPublic(m.getModifiers()) && !Modifier.isStatic(m.getModifiers()));
            }
        }
        due("the methods are " + found, found.equals(new TreeSet<>(Arrays.asList(FACE))));
        Constructor<?>[] makers = c.getDeclaredConstructors();
        due("one public constructor", makers.length == 1 && Modifier.isPublic(makers[0].getModifiers())
            && makers[0].getParameterCount() == 0);
        for (Field f : c.getDeclaredFields()) {
            due(f + " is private", Modifier.isPrivate(f.getModifiers()) || f.getName().equals("NONE"));
        }
        Field none = c.getField("NONE");
        due("NONE", none.getType() == int.class && Modifier.isStatic(none.getModifiers())
            && Modifier.isFinal(none.getModifiers()) && none.getInt(null) == -1);
    }

    private static void inside(Class<?> c, Set<String> faceNames) {
        int fields = 0;
        for (Field f : c.getDeclaredFields()) {
            if (Modifier.isStatic(f.getModifiers())) {
                due(f + " is final", Modifier.isFinal(f.getModifiers()));
            } else {
                fields++;
            }
        }
        due(c + " has few fields", fields <= 20);
        for (Method m : c.getDeclaredMethods()) {
            due(m + " has at most seven parameters", m.getParameterCount() <= 7);
            due(m + " has a name of its own", c == MachineHall.class && Modifier.isPublic(m.getModifiers())
                || !faceNames.contains(m.getName()));
        }
    }

    private static void source() throws Exception {
        String text = Files.readString(Path.of("src/main/java/MachineHall.java"));
        String code = text.replaceAll("(?s)/\\*.*?\\*/", "").replaceAll("//[^\n]*", "");
        String[] banned = {"throw", "throws", "try", "catch", "finally", "synchronized", "assert", "instanceof", "volatile",
            "->", "::", "\\bequals\\b", "hashCode", "toString", "Exact\\b", "\"", "\\bpackage\\b", "double", "float"};
        for (String word : banned) {
            String exact = Character.isLetter(word.charAt(0)) ? "\\b" + word + "\\b" : word;
            due("no " + word, !Pattern.compile(exact).matcher(code).find());
        }
        for (String line : code.split("\n")) {
            due("line is not too long: " + line, line.length() <= 120);
            due("only Arrays is taken in: " + line, !line.startsWith("import") || line.equals("import java.util.Arrays;"));
            boolean makes = Pattern.compile("\\bnew\\b").matcher(line).find();
            due("objects are made for fields alone: " + line, !makes || line.matches("\\s+\\w+ = new [^;]*;"));
        }
        methods(code);
    }

    private static void methods(String code) {
        Matcher heads = Pattern.compile("(?m)^( {4}| {8})(\\w[\\w\\[\\] ]*)\\([^)]*\\) \\{$").matcher(code);
        int many = 0;
        while (heads.find()) {
            many++;
            int end = code.indexOf("\n" + heads.group(1) + "}\n", heads.end());
            due(heads.group(2) + " is short", end > 0 && code.substring(heads.start(), end).split("\n").length <= 60);
            boolean maker = heads.group(2).matches("(public )?[A-Z]\\w*");
            due(heads.group(2) + " makes nothing", maker || !code.substring(heads.end(), end).contains(" new "));
        }
        due("methods are found", many > 60);
    }
}
