import java.io.IOException;
import java.nio.file.Files;
import java.nio.file.Path;
import java.util.List;
import java.util.Map;
import java.util.Set;
import java.util.TreeSet;
import java.util.regex.Matcher;
import java.util.regex.Pattern;
import java.util.stream.Stream;

/** README.md shows the document's face, an example of each call, how STATUS is asked, and how to run the tests. */
public final class ReadmeTest {
    private static int asked = 0;
    private static int wrong = 0;

    private static void due(String what, boolean holds) {
        asked++;
        if (!holds) {
            wrong++;
            System.out.println("README.md, not so: " + what);
        }
    }

    public static void main(String[] args) throws IOException {
        face();
        for (Map.Entry<String, List<String>> group : Document.groups().entrySet()) {
            examples(group.getKey(), group.getValue());
        }
        examples("STATUS: how a call ended", List.of("status"));
        everyStatus();
        tests();
        System.out.println("ReadmeTest: " + asked + " asked, " + wrong + " wrong");
        if (wrong != 0) {
            System.exit(1);
        }
    }

    private static void face() throws IOException {
        int faces = 0;
        for (Readme.Block block : Readme.blocks()) {
            if (block.isFace()) {
                faces++;
                due("the face is that of the document", Document.withoutRemarks(block.lines()).equals(Document.face()));
            }
        }
        due("the face is shown once", faces == 1);
        due("the document shows a face", Document.face().size() > 27);
        due("the document has five groups of calls", Document.groups().size() == 5);
    }

    private static void examples(String heading, List<String> calls) throws IOException {
        StringBuilder shown = new StringBuilder();
        for (Readme.Block block : Readme.blocks()) {
            if (block.heading().equals(heading)) {
                shown.append(String.join("\n", block.lines()));
            }
        }
        for (String call : calls) {
            due(heading + " shows " + call, shown.indexOf("x." + call + "(") >= 0);
        }
        due(heading + " shows how STATUS is asked", shown.indexOf("x.status()") >= 0);
    }

    /** Each status is in the table, and in an example. */
    private static void everyStatus() throws IOException {
        String page = Files.readString(Path.of("README.md"));
        for (int status = 0; status <= 8; status++) {
            due("the table tells status " + status, page.contains("\n| " + status + " | "));
            due("an example has status " + status, Pattern.compile("x\\.status\\(\\); +// " + status + "\\b").matcher(page).find());
        }
    }

    private static void tests() throws IOException {
        String page = Files.readString(Path.of("README.md"));
        Set<String> named = new TreeSet<>();
        Matcher name = Pattern.compile("`(\\w+Test)`").matcher(page);
        while (name.find()) {
            named.add(name.group(1));
        }
        Set<String> there = new TreeSet<>();
        try (Stream<Path> files = Files.list(Path.of("src/test/java"))) {
            files.forEach(file -> there.add(file.getFileName().toString().replace(".java", "")));
        }
        due("the tests are " + there + ", named are " + named, there.equals(named));
        due("it says how to run them", page.contains("\n    bash .ci/run\n"));
    }
}
