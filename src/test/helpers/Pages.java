import java.io.IOException;
import java.nio.file.Files;
import java.nio.file.Path;
import java.util.ArrayList;
import java.util.List;
import java.util.regex.Matcher;
import java.util.regex.Pattern;

/** The files that tests look at, found from the project's folder, and what the document says of the face. */
final class Pages {
    static final Path SOURCE = Path.of("src/main/java/DubDesk.java");
    static final Path TESTS = Path.of("src/test/java");
    static final Path HELPERS = Path.of("src/test/helpers");
    static final Path README = Path.of("README.md");
    private static final Path DOCUMENT = Path.of("../shared/DOC.md");

    private Pages() {
    }

    static String document() throws IOException {
        return Files.readString(DOCUMENT);
    }

    /** The heads of the document's methods, such as "int line(int part)". */
    static List<String> face() throws IOException {
        String text = document();
        String code = text.substring(text.indexOf("```java"), text.indexOf("## Terms"));
        List<String> heads = new ArrayList<>();
        Matcher head = Pattern.compile("\n    public (\\w+ \\w+\\([^)]*\\));").matcher(code);
        while (head.find()) {
            heads.add(head.group(1));
        }
        return heads;
    }

    /** The names of the Java files of a folder, without their endings. */
    static List<String> classesOf(Path folder) throws IOException {
        List<String> names = new ArrayList<>();
        try (var files = Files.newDirectoryStream(folder, "*.java")) {
            for (Path file : files) {
                names.add(file.getFileName().toString().replace(".java", ""));
            }
        }
        return names;
    }
}
