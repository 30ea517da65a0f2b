import java.io.ByteArrayOutputStream;
import java.io.IOException;
import java.io.PrintStream;
import java.nio.charset.StandardCharsets;
import java.nio.file.Files;
import java.nio.file.Path;
import java.util.regex.Matcher;
import java.util.regex.Pattern;

/** README.md shows the example as it is, with what it prints, and every call of the face with its parameters. */
public final class ReadmeTest {
    private static final Due DUE = new Due();
    private static final int CALLS = 45;
    private static final Pattern CALL = Pattern.compile("(?m)^    public (?:int|long|boolean) (\\w+)\\(([^)]*)\\);$");

    public static void main(String[] args) throws IOException {
        String page = Files.readString(Path.of("README.md"));
        String example = Files.readString(Path.of("src/test/java/Example.java"));
        DUE.is("the example", block(page, "java"), example);
        DUE.is("what it prints", block(page, "text"), printed());
        calls(page.substring(Math.max(0, page.indexOf("### The calls"))));
        DUE.is("how to run the tests", page.contains("\n    .ci/run\n"), true);
        DUE.end();
    }

    private static String block(String page, String sort) {
        String opening = "```" + sort + "\n";
        int begin = page.indexOf(opening);
        int end = page.indexOf("```\n", begin + opening.length());
        return begin < 0 || end < 0 ? "none" : page.substring(begin + opening.length(), end);
    }

    private static String printed() {
        PrintStream screen = System.out;
        ByteArrayOutputStream bytes = new ByteArrayOutputStream();
        System.setOut(new PrintStream(bytes, true, StandardCharsets.UTF_8));
        Example.main(new String[0]);
        System.setOut(screen);
        return bytes.toString(StandardCharsets.UTF_8).replace("\r\n", "\n");
    }

    private static void calls(String page) throws IOException {
        Matcher face = CALL.matcher(Files.readString(Path.of("../shared/DOC.md")));
        int calls = 0;
        while (face.find()) {
            String call = face.group(1) + "(" + face.group(2).replaceAll("\\w+ (\\w+)", "$1") + ")";
            DUE.is("told: " + call, page.contains("`" + call + "`"), true);
            calls++;
        }
        DUE.is("calls of the face", calls, CALLS);
    }
}
