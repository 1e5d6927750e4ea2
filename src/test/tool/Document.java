import java.io.IOException;
import java.nio.file.Files;
import java.nio.file.Path;
import java.util.ArrayList;
import java.util.Arrays;
import java.util.LinkedHashMap;
import java.util.List;
import java.util.Map;
import java.util.regex.Matcher;
import java.util.regex.Pattern;

/** What ../shared/DOC.md says of the public face. */
final class Document {
    private static final Pattern FACE = Pattern.compile("(?s)## The public face\\s+```java\\n(.*?)```");
    private static final Pattern GROUP = Pattern.compile("Ahead of the calls (.*) the interface says: ---- (.*)\\.");

    private Document() {
    }

    private static String text() throws IOException {
        return Files.readString(Path.of("../shared/DOC.md"));
    }

    /** The lines of the face, as they stand there. */
    static List<String> face() throws IOException {
        Matcher face = FACE.matcher(text());
        return face.find() ? withoutRemarks(Arrays.asList(face.group(1).split("\n"))) : List.of();
    }

    static List<String> withoutRemarks(List<String> lines) {
        List<String> bare = new ArrayList<>();
        for (String line : lines) {
            String said = line.replaceAll("//.*", "").trim();
            if (!said.isEmpty()) {
                bare.add(said);
            }
        }
        return bare;
    }

    /** The calls of each group, by the words that the interface says ahead of them. */
    static Map<String, List<String>> groups() throws IOException {
        Map<String, List<String>> found = new LinkedHashMap<>();
        Matcher group = GROUP.matcher(text());
        while (group.find()) {
            found.put(group.group(2), Arrays.asList(group.group(1).replace("`", "").split(", ")));
        }
        return found;
    }
}
