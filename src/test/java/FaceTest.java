import java.io.IOException;
import java.lang.reflect.Constructor;
import java.lang.reflect.Field;
import java.lang.reflect.Method;
import java.lang.reflect.Modifier;
import java.nio.file.Files;
import java.nio.file.Path;
import java.util.ArrayList;
import java.util.LinkedHashMap;
import java.util.List;
import java.util.Map;
import java.util.Set;
import java.util.TreeSet;
import java.util.regex.Matcher;
import java.util.regex.Pattern;

/** The class has the face that the document shows, no more and no less (LANGUAGE.md, rule 1, too). */
public final class FaceTest {
    private static final Pattern CALL = Pattern.compile("public (\\w+) (\\w+)\\((.*)\\);");
    private static final Pattern HEAD = Pattern.compile("    // ---- (.*)|    public \\w+ (\\w+)\\(.*\\) \\{");
    private static int asked = 0;
    private static int wrong = 0;

    private static void due(String what, boolean holds) {
        asked++;
        if (!holds) {
            wrong++;
            System.out.println("not so: " + what);
        }
    }

    public static void main(String[] args) throws Exception {
        theClass();
        calls();
        constants();
        heads();
        groups();
        System.out.println("FaceTest: " + asked + " asked, " + wrong + " wrong");
        if (wrong != 0) {
            System.exit(1);
        }
    }

    private static void theClass() {
        Class<?> c = MachineHall.class;
        due("public and final", Modifier.isPublic(c.getModifiers()) && Modifier.isFinal(c.getModifiers()));
        due("in no package", c.getPackageName().isEmpty());
        due("of no class and no interface", c.getSuperclass() == Object.class && c.getInterfaces().length == 0);
        Constructor<?>[] makers = c.getDeclaredConstructors();
        due("one public constructor", makers.length == 1 && Modifier.isPublic(makers[0].getModifiers())
            && makers[0].getParameterCount() == 0);
    }

    private static void calls() throws IOException {
        Set<String> told = new TreeSet<>();
        for (String line : Document.face()) {
            Matcher call = CALL.matcher(line);
            if (call.matches()) {
                told.add(call.group(1) + " " + call.group(2) + "(" + call.group(3).replaceAll(" \\w+(,|$)", "$1") + ")");
            }
        }
        due("the document has 27 calls", told.size() == 27);
        Set<String> found = new TreeSet<>();
        for (Method m : MachineHall.class.getDeclaredMethods()) {
            if (!Modifier.isPrivate(m.getModifiers())) {
                List<String> types = new ArrayList<>();
                for (Class<?> type : m.getParameterTypes()) {
                    types.add(type.getName());
                }
                found.add(m.getReturnType() + " " + m.getName() + "(" + String.join(", ", types) + ")");
                due(m + " is public, and of an object", Modifier.isPublic(m.getModifiers()) && !Modifier.isStatic(m.getModifiers()));
                due(m + " throws nothing", m.getExceptionTypes().length == 0);
            }
        }
        due("the calls are " + found + ", told are " + told, found.equals(told));
    }

    private static void constants() throws Exception {
        due("the document has one constant", Document.face().contains("public static final int NONE = -1;"));
        for (Field f : MachineHall.class.getDeclaredFields()) {
            due(f + " is private", Modifier.isPrivate(f.getModifiers()) || f.getName().equals("NONE"));
        }
        Field none = MachineHall.class.getField("NONE");
        due("NONE is -1", none.getType() == int.class && Modifier.isPublic(none.getModifiers())
            && Modifier.isStatic(none.getModifiers()) && Modifier.isFinal(none.getModifiers()) && none.getInt(null) == -1);
    }

    /** The source shows the face line by line, with the names of all arguments. */
    private static void heads() throws IOException {
        List<String> found = new ArrayList<>();
        for (String line : Files.readAllLines(Path.of("src/main/java/MachineHall.java"))) {
            if (line.matches(" *public .*")) {
                found.add(line.trim().replaceAll("\\) \\{$", ");"));
            }
        }
        found.add("}");
        due("the source shows " + found, found.equals(Document.face()));
    }

    /** What the interface says ahead of which calls. */
    private static void groups() throws IOException {
        Map<String, List<String>> found = new LinkedHashMap<>();
        List<String> group = new ArrayList<>();
        for (String line : Files.readAllLines(Path.of("src/main/java/MachineHall.java"))) {
            Matcher head = HEAD.matcher(line);
            if (head.matches() && head.group(1) != null) {
                group = new ArrayList<>();
                found.put(head.group(1), group);
            } else if (head.matches()) {
                group.add(head.group(2));
            }
        }
        for (Map.Entry<String, List<String>> told : Document.groups().entrySet()) {
            due("ahead of " + told.getValue() + " stands " + told.getKey(), told.getValue().equals(found.get(told.getKey())));
        }
    }
}
