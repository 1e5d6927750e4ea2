import java.io.IOException;
import java.nio.file.Files;
import java.nio.file.Path;
import java.util.ArrayList;
import java.util.List;
import java.util.regex.Matcher;
import java.util.regex.Pattern;

/**
 * The blocks of Java that README.md shows: the face, and the examples. Its main method writes a test, named as its
 * file, that does each example as it is shown, and once more asking whether each call answers as its remark says.
 */
final class Readme {
    private static final Pattern TOLD = Pattern.compile("(x\\.\\w+\\(.*\\)); +// (-?\\d+|true|false)(: .+)?");

    private Readme() {
    }

    /** A block of Java, with its heading and the number of its first line. */
    record Block(String heading, int first, List<String> lines) {
        boolean isFace() {
            return lines.get(0).startsWith("public final class");
        }
    }

    static List<Block> blocks() throws IOException {
        List<Block> found = new ArrayList<>();
        String heading = "";
        Block open = null;
        int number = 0;
        for (String line : Files.readAllLines(Path.of("README.md"))) {
            number++;
            if (open != null && line.equals("```")) {
                open = null;
            } else if (open != null) {
                open.lines().add(line);
            } else if (line.equals("```java")) {
                open = new Block(heading, number + 1, new ArrayList<>());
                found.add(open);
            } else if (line.startsWith("#")) {
                heading = line.replaceAll("^#+ ", "");
            }
        }
        return found;
    }

    public static void main(String[] args) throws IOException {
        Path file = Path.of(args[0]);
        Files.writeString(file, test(file.getFileName().toString().replace(".java", "")));
    }

    private static String test(String name) throws IOException {
        StringBuilder shown = new StringBuilder();
        StringBuilder asked = new StringBuilder();
        StringBuilder calls = new StringBuilder();
        for (Block block : blocks()) {
            if (!block.isFace()) {
                shown.append("static void shown").append(block.first()).append("() {\n");
                asked.append("static void asked").append(block.first()).append("() {\n");
                for (int i = 0; i < block.lines().size(); i++) {
                    shown.append(block.lines().get(i)).append('\n');
                    asked.append(asking(block.lines().get(i), block.first() + i)).append('\n');
                }
                shown.append("}\n");
                asked.append("}\n");
                calls.append("shown" + block.first() + "();\nasked" + block.first() + "();\n");
            }
        }
        return "public final class " + name + " {\n" + DUE + shown + asked
            + "public static void main(String[] args) {\n" + calls + END + "}\n}\n";
    }

    private static String asking(String line, int number) {
        Matcher told = TOLD.matcher(line);
        if (told.matches()) {
            return "due(" + number + ", \"" + told.group(1) + "\", " + told.group(1) + ", \"" + told.group(2) + "\");";
        }
        if (line.startsWith("x.") || line.contains("//")) {
            throw new IllegalStateException("README.md, line " + number + ": a call at its beginning and its answer: " + line);
        }
        return line;
    }

    private static final String DUE = """
        private static int asked;
        private static int wrong;
        private static void due(int line, String call, Object got, String want) {
            asked++;
            if (!String.valueOf(got).equals(want)) {
                wrong++;
                System.out.println("README.md, line " + line + ": " + call + " answered " + got + ", it says " + want);
            }
        }
        """;

    private static final String END = """
        System.out.println("the examples of README.md: " + asked + " answers asked, " + wrong + " wrong");
        if (wrong != 0) {
            System.exit(1);
        }
        """;
}
