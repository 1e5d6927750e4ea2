import java.io.IOException;
import java.lang.reflect.Array;
import java.lang.reflect.Field;
import java.lang.reflect.Method;
import java.lang.reflect.Modifier;
import java.nio.file.Files;
import java.nio.file.Path;
import java.util.ArrayList;
import java.util.HashMap;
import java.util.HashSet;
import java.util.IdentityHashMap;
import java.util.List;
import java.util.Map;
import java.util.Set;
import java.util.regex.Matcher;
import java.util.regex.Pattern;

/**
 * The rules of LANGUAGE.md by their numbers, as far as they can be read off the class and its source. Where the class
 * has no need of what a rule allows (while, instanceof, texts, doubles, objects made by calls), this test allows none.
 */
public final class LanguageTest {
    private static final Set<Class<?>> NUMBERS = Set.of(int.class, long.class, short.class, byte.class, char.class, boolean.class);
    private static final Set<Class<?>> CONSTANTS = Set.of(int.class, long.class, boolean.class, char.class, String.class,
        int[].class, long[].class, char[].class, byte[].class);
    private static final Set<String> LIBRARY = Set.of("Math.min", "Math.max", "Math.abs", "Math.floorDiv", "Math.floorMod",
        "Arrays.fill", "Arrays.copyOf", "Arrays.copyOfRange", "System.arraycopy");
    private static final List<Class<?>> CLASSES = classes();

    private static int asked = 0;
    private static int wrong = 0;

    private static void due(int rule, String what, boolean holds) {
        asked++;
        if (!holds) {
            wrong++;
            System.out.println("rule " + rule + ", not so: " + what);
        }
    }

    public static void main(String[] args) throws Exception {
        String text = Files.readString(Path.of("src/main/java/MachineHall.java"));
        String code = text.replaceAll("(?s)/\\*.*?\\*/", "").replaceAll("//[^\n]*", "");
        names();
        inside(code);
        for (Class<?> c : CLASSES) {
            types(c);
        }
        library(code);
        statics(code);
        words(code);
        loops(code);
        Map<String, String> bodies = bodies(code);
        sizes(bodies);
        depth(bodies);
        made(code, bodies);
        System.out.println("LanguageTest: " + asked + " asked, " + wrong + " wrong");
        if (wrong != 0) {
            System.exit(1);
        }
    }

    private static List<Class<?>> classes() {
        List<Class<?>> found = new ArrayList<>(List.of(MachineHall.class.getDeclaredClasses()));
        found.add(MachineHall.class);
        return found;
    }

    // ---- rules 1 and 2: names, and the classes inside

    private static void names() {
        Set<String> face = new HashSet<>();
        for (Method m : MachineHall.class.getMethods()) {
            face.add(m.getName());
        }
        for (Class<?> c : CLASSES) {
            for (Method m : c.getDeclaredMethods()) {
                boolean open = c == MachineHall.class && Modifier.isPublic(m.getModifiers());
                due(1, m + " has a name of its own", open || !face.contains(m.getName()));
                due(6, m + " is not one that each object has", !Set.of("equals", "hashCode", "toString").contains(m.getName()));
            }
        }
    }

    private static void inside(String code) {
        for (Class<?> c : MachineHall.class.getDeclaredClasses()) {
            due(2, c + " is static", Modifier.isStatic(c.getModifiers()));
            due(1, c + " is private or of the package", !Modifier.isPublic(c.getModifiers()) && !Modifier.isProtected(c.getModifiers()));
            due(2, c + " has no class inside", c.getDeclaredClasses().length == 0);
        }
        for (Class<?> c : CLASSES) {
            boolean found = true;
            try {
                Class.forName(c.getName() + "$1");
            } catch (ClassNotFoundException none) {
                found = false;
            }
            due(2, c + " has no class without a name", !found);
        }
        due(2, "no lambda, no reference to a method", !code.contains("->") && !code.contains("::"));
    }

    // ---- rules 3 to 5: types, the library, static fields

    private static void types(Class<?> c) {
        for (Field f : c.getDeclaredFields()) {
            due(3, f + " is of a type that is told", isTold(f.getType()));
            if (Modifier.isStatic(f.getModifiers())) {
                due(5, f + " is final", Modifier.isFinal(f.getModifiers()));
                due(5, f + " is a constant", CONSTANTS.contains(f.getType()));
            }
        }
        for (Method m : c.getDeclaredMethods()) {
            due(3, m + " gives what is told", m.getReturnType() == void.class || isTold(m.getReturnType()));
            for (Class<?> type : m.getParameterTypes()) {
                due(3, m + " takes what is told", isTold(type));
            }
        }
    }

    private static boolean isTold(Class<?> type) {
        if (type.isArray() && type.getComponentType().isArray()) {
            return NUMBERS.contains(type.getComponentType().getComponentType());
        }
        Class<?> one = type.isArray() ? type.getComponentType() : type;
        return NUMBERS.contains(one) || CLASSES.contains(one);
    }

    private static void library(String code) {
        Matcher taken = Pattern.compile("(?m)^import (.*);$").matcher(code);
        while (taken.find()) {
            due(4, "only Arrays is taken in: " + taken.group(), taken.group(1).equals("java.util.Arrays"));
        }
        Set<String> own = new HashSet<>();
        for (Class<?> c : CLASSES) {
            own.add(c.getSimpleName());
        }
        Matcher name = Pattern.compile("\\b([A-Z]\\w*[a-z]\\w*)(\\.\\w+)?").matcher(code.replaceAll("(?m)^import .*$", ""));
        while (name.find()) {
            due(4, "the library has " + name.group(), own.contains(name.group(1)) || LIBRARY.contains(name.group()));
        }
        due(4, "nothing whose name ends in Exact", !Pattern.compile("Exact\\b").matcher(code).find());
    }

    private static void statics(String code) {
        due(5, "no static initialiser", !Pattern.compile("static\\s*\\{").matcher(code).find());
        due(1, "no package", !Pattern.compile("\\bpackage\\b").matcher(code).find());
    }

    // ---- rules 6, 7, 9, 10: words, divisors, loops

    private static void words(String code) {
        for (String word : List.of("throw", "throws", "try", "catch", "finally", "synchronized", "assert", "instanceof",
            "volatile", "transient", "native", "double", "float", "record", "null", "var")) {
            due(6, "no " + word, !Pattern.compile("\\b" + word + "\\b").matcher(code).find());
        }
        due(10, "no text", !code.contains("\""));
        due(7, "only numbers that are written out divide", !Pattern.compile("[/%]=?\\s*[^\\s\\d]").matcher(code).find());
        due(7, "only numbers are cast", !Pattern.compile("\\([A-Z]\\w*(\\[\\])*\\) *\\w").matcher(code).find());
        for (String line : code.split("\n")) {
            due(11, "the line is not too long: " + line, line.length() <= 120);
        }
    }

    private static void loops(String code) {
        due(9, "no while, no do", !Pattern.compile("\\b(while|do)\\b").matcher(code).find());
        Matcher loop = Pattern.compile("\\bfor \\((.*)\\) \\{").matcher(code);
        int many = 0;
        while (loop.find()) {
            many++;
            String[] parts = loop.group(1).split(";");
            due(9, "a counter against a bound: " + loop.group(), parts.length == 3
                && parts[1].matches(".*\\w+ (<|<=|>|>=) .*") && parts[2].matches(" \\w+(\\+\\+|--| = \\(set - 1\\) & \\w+)"));
        }
        due(9, "all loops are looked at", many == code.split("\\bfor\\b", -1).length - 1 && many > 30);
    }

    // ---- rules 8 and 11: how long, how deep, how many

    /** The text of each method and constructor by its name; no two have the same. */
    private static Map<String, String> bodies(String code) {
        Map<String, String> found = new HashMap<>();
        Matcher heads = Pattern.compile("(?m)^( {4}| {8})((?!private static final class)\\w[\\w\\[\\] ]*?)\\b(\\w+)\\([^)]*\\) \\{$").matcher(code);
        while (heads.find()) {
            int end = code.indexOf("\n" + heads.group(1) + "}\n", heads.end());
            due(11, heads.group(3) + " has an end", end > 0);
            String before = found.put(heads.group(3), code.substring(heads.end(), Math.max(heads.end(), end)));
            due(8, heads.group(3) + " is the only one with its name", before == null);
        }
        Matcher makers = Pattern.compile("(?m)^( {4}| {8})([A-Z]\\w*)\\([^)]*\\) \\{$").matcher(code);
        while (makers.find()) {
            int end = code.indexOf("\n" + makers.group(1) + "}\n", makers.end());
            found.put(makers.group(2), code.substring(makers.end(), Math.max(makers.end(), end)));
        }
        int methods = 0;
        for (Class<?> c : CLASSES) {
            methods += c.getDeclaredConstructors().length;
            for (Method m : c.getDeclaredMethods()) {
                methods++;
                due(11, m + " is found in the source", found.containsKey(m.getName()));
            }
        }
        due(11, "all methods are looked at: " + methods + ", " + found.size(), found.size() <= methods && found.size() > 90);
        return found;
    }

    private static void sizes(Map<String, String> bodies) {
        due(11, "at most some twelve classes", CLASSES.size() <= 12);
        for (Class<?> c : CLASSES) {
            int fields = 0;
            for (Field f : c.getDeclaredFields()) {
                fields += Modifier.isStatic(f.getModifiers()) ? 0 : 1;
            }
            due(11, c + " has some twenty fields at most", fields <= 20);
            for (Method m : c.getDeclaredMethods()) {
                due(11, m + " has at most seven parameters", m.getParameterCount() <= 7);
            }
        }
        for (Map.Entry<String, String> body : bodies.entrySet()) {
            due(11, body.getKey() + " is short", body.getValue().split("\n").length <= 60);
        }
    }

    private static void depth(Map<String, String> bodies) {
        int deepest = 0;
        for (String name : bodies.keySet()) {
            deepest = Math.max(deepest, depthOf(name, bodies, new ArrayList<>()));
        }
        due(11, "calls go at most eight deep, not " + deepest, deepest <= 8);
        due(11, "calls go some deep, not " + deepest, deepest >= 5);
    }

    private static int depthOf(String name, Map<String, String> bodies, List<String> open) {
        due(8, name + " calls itself: " + open, !open.contains(name));
        if (open.contains(name)) {
            return 0;
        }
        open.add(name);
        int deepest = 0;
        Matcher call = Pattern.compile("\\b(\\w+)\\(").matcher(bodies.get(name));
        while (call.find()) {
            boolean own = bodies.containsKey(call.group(1)) && !bodies.get(name).substring(0, call.start()).endsWith("Arrays.");
            if (own) {
                deepest = Math.max(deepest, depthOf(call.group(1), bodies, open));
            }
        }
        open.remove(name);
        return 1 + deepest;
    }

    // ---- rule 12: what is made

    private static void made(String code, Map<String, String> bodies) throws IllegalAccessException {
        for (Map.Entry<String, String> body : bodies.entrySet()) {
            boolean maker = Character.isUpperCase(body.getKey().charAt(0));
            due(12, body.getKey() + " makes nothing", maker || !Pattern.compile("\\bnew\\b|\\bclone\\b|copyOf").matcher(body.getValue()).find());
        }
        for (String line : code.split("\n")) {
            due(12, "what is made is kept in a field: " + line, !line.contains(" new ") || line.matches(" +\\w+ = new [^;]*;"));
        }
        IdentityHashMap<Object, Integer> counted = new IdentityHashMap<>();
        count(new MachineHall(), counted);
        int elements = 0;
        for (int many : counted.values()) {
            elements += many;
        }
        due(12, "some 100 objects, not " + counted.size(), counted.size() <= 120);
        due(12, "some 7,000 fields and elements, not " + elements, elements <= 8000);
    }

    private static void count(Object o, IdentityHashMap<Object, Integer> counted) throws IllegalAccessException {
        if (o == null || counted.containsKey(o)) {
            return;
        }
        if (o.getClass().isArray()) {
            int many = Array.getLength(o);
            counted.put(o, many);
            for (int i = 0; i < many && !o.getClass().getComponentType().isPrimitive(); i++) {
                count(Array.get(o, i), counted);
            }
            return;
        }
        int many = 0;
        counted.put(o, 0);
        for (Field f : o.getClass().getDeclaredFields()) {
            if (!Modifier.isStatic(f.getModifiers())) {
                many++;
                f.setAccessible(true);
                if (!f.getType().isPrimitive()) {
                    count(f.get(o), counted);
                }
            }
        }
        counted.put(o, many);
    }
}
