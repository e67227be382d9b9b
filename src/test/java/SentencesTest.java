import java.io.IOException;
import java.nio.file.DirectoryStream;
import java.nio.file.Files;
import java.nio.file.Path;
import java.util.regex.Matcher;
import java.util.regex.Pattern;

/** Every sentence of the document, up to what is not promised, is named by a test; FaceTest has the face. */
public final class SentencesTest {
    private static final Pattern NAMED = Pattern.compile("\\.sentence\\(((?:\\s*\"(?:[^\"\\\\]|\\\\.)*\"\\s*\\+?)+)\\)");
    private static final Pattern PART = Pattern.compile("\"((?:[^\"\\\\]|\\\\.)*)\"");

    public static void main(String[] args) throws IOException {
        Bench b = new Bench();
        String document = sentences(Files.readString(Path.of("..", "shared", "DOC.md")));
        boolean[] named = new boolean[document.length()];
        try (DirectoryStream<Path> tests = Files.newDirectoryStream(Path.of("src", "test", "java"), "*Test.java")) {
            for (Path test : tests) {
                markNamed(Files.readString(test), document, named);
            }
        }
        b.due("there is a document", document.isEmpty(), false);
        b.due("what no test names", unnamed(document, named), "");
        b.end();
    }

    /** The document without its headings, its face and its last part, in one line. */
    private static String sentences(String whole) {
        int end = whole.indexOf("## Not promised");
        String promised = end < 0 ? whole : whole.substring(0, end);
        return promised.replaceAll("(?s)```java.*?```", "").replaceAll("(?m)^(#|```).*$", "").replaceAll("\\s+", " ");
    }

    private static void markNamed(String test, String document, boolean[] named) {
        Matcher call = NAMED.matcher(test);
        while (call.find()) {
            StringBuilder words = new StringBuilder();
            Matcher part = PART.matcher(call.group(1));
            while (part.find()) {
                words.append(part.group(1).translateEscapes());
            }
            int at = document.indexOf(words.toString());
            for (int i = at; at >= 0 && i < at + words.length(); i++) {
                named[i] = true;
            }
        }
    }

    /** A promise's signature may stay unnamed, and so may what is neither a letter nor a digit. */
    private static String unnamed(String document, boolean[] named) {
        StringBuilder left = new StringBuilder();
        for (int i = 0; i < named.length; i++) {
            left.append(named[i] ? '\n' : document.charAt(i));
        }
        StringBuilder words = new StringBuilder();
        for (String piece : left.toString().replaceAll("`[^`\n]*`:", "").split("\n+")) {
            words.append(piece.matches(".*[A-Za-z0-9].*") ? piece : "");
        }
        return words.toString();
    }
}
