import java.io.IOException;
import java.nio.file.Files;
import java.nio.file.Path;
import java.util.ArrayList;
import java.util.List;
import java.util.regex.Matcher;
import java.util.regex.Pattern;
import java.util.stream.Stream;

/** Each sentence that a test names stands in the document, and each word of the promises and the terms is in one that is named. */
public final class SentenceTest {
    private static final Due DUE = new Due();
    private static final int PROMISES = 46;
    private static final Pattern NAMED = Pattern.compile("DUE\\.by\\((\\d+), \"((?:[^\"\\\\]|\\\\.)*)\"\\);");
    private static final Pattern PROMISE = Pattern.compile("(?m)^## Promise (\\d+): .*$");

    public static void main(String[] args) throws IOException {
        String text = Files.readString(Path.of("../shared/DOC.md"));
        int terms = text.indexOf("## Terms");
        Span[] parts = parts(text, terms);
        List<int[]> numbers = new ArrayList<>();
        List<String> sentences = new ArrayList<>();
        readNamed(numbers, sentences);
        for (int k = 0; k < sentences.size(); k++) {
            int promise = numbers.get(k)[0];
            boolean promised = promise >= 1 && promise <= PROMISES;
            DUE.is("a promise: " + promise, promised, true);
            boolean found = promised && parts[promise].covers(sentences.get(k)) | parts[0].covers(sentences.get(k));
            DUE.is("it stands in promise " + promise + " or in the terms: " + sentences.get(k), found, true);
        }
        for (int promise = 1; promise <= PROMISES; promise++) {
            DUE.is("not named of promise " + promise, parts[promise].left(), "");
        }
        DUE.is("not named of the terms", parts[0].left(), "");
        DUE.end();
    }

    /** 0: what is ahead of the first promise, from the terms on, with the sentence of how often an object is used; then each promise without its call. */
    private static Span[] parts(String text, int terms) {
        Span[] parts = new Span[PROMISES + 1];
        Matcher matcher = PROMISE.matcher(text);
        List<Integer> begins = new ArrayList<>();
        List<Integer> ends = new ArrayList<>();
        while (matcher.find()) {
            begins.add(matcher.start());
            ends.add(matcher.end());
        }
        DUE.is("promises in the document", begins.size(), PROMISES);
        begins.add(text.indexOf("## Not promised"));
        String used = "An object is used for at most 512 calls after it has been made; what later calls answer is free.";
        String told = text.substring(terms, begins.get(0))
                .replaceAll("(?m)^(## .*|Ahead of the calls .*|The constants: |```.*|I+\\. )", "");
        parts[0] = new Span((text.contains(used) ? used : "") + " " + told);
        for (int k = 0; k < PROMISES; k++) {
            parts[k + 1] = new Span(text.substring(ends.get(k), begins.get(k + 1)).replaceFirst("`[^`]*`: ", ""));
        }
        return parts;
    }

    private static void readNamed(List<int[]> numbers, List<String> sentences) throws IOException {
        try (Stream<Path> files = Files.list(Path.of("src/test/java"))) {
            for (Path file : files.filter(path -> path.toString().endsWith("EdgesTest.java")).sorted().toList()) {
                Matcher matcher = NAMED.matcher(Files.readString(file));
                while (matcher.find()) {
                    numbers.add(new int[] {Integer.parseInt(matcher.group(1))});
                    sentences.add(matcher.group(2).replace("\\\"", "\"").replace("\\\\", "\\"));
                }
            }
        }
    }

    /** A part of the document, and what of it has been named. */
    private static final class Span {
        private final String text;
        private final boolean[] named;

        Span(String text) {
            this.text = text.replaceAll("\\s+", " ");
            named = new boolean[this.text.length()];
        }

        boolean covers(String sentence) {
            int at = text.indexOf(sentence);
            for (int k = at; at >= 0 && k < at + sentence.length(); k++) {
                named[k] = true;
            }
            return at >= 0;
        }

        String left() {
            StringBuilder rest = new StringBuilder();
            for (int k = 0; k < named.length; k++) {
                boolean gap = rest.length() > 0 && k > 0 && named[k - 1];
                rest.append(named[k] ? "" : gap ? "|" + text.charAt(k) : "" + text.charAt(k));
            }
            return rest.chars().anyMatch(Character::isLetterOrDigit) ? rest.toString().trim() : "";
        }
    }
}
