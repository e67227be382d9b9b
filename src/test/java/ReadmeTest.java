import java.io.IOException;
import java.nio.file.Files;
import java.nio.file.Path;
import java.util.regex.Matcher;
import java.util.regex.Pattern;

/** The looks that README.md tells of are those that the class gives. */
public final class ReadmeTest {
    private static final Pattern ROW = Pattern.compile("(?m)^\\| `([^`]*)` \\| `([^`]*)` \\| `([^`]*)` \\|$");

    public static void main(String[] args) throws IOException {
        Bench b = new Bench();
        Matcher row = ROW.matcher(Files.readString(Path.of("README.md")));
        int rows = 0;
        while (row.find()) {
            b.dueLook(row.group(1), row.group(2), row.group(3));
            rows++;
        }
        b.due("there are rows", rows > 0, true);
        example(b);
        b.end();
    }

    private static void example(Bench b) {
        b.anew();
        b.dress.type('#' << 24 | ',' << 16 | '#' << 8 | '#');
        b.dress.type('0' << 24 | '.' << 16 | '0' << 8 | '0');
        b.due("the example's code", b.dress.code(), NumberDress.NONE);
        b.dress.number(true, 1, 234567891, -3);
        b.due("the example's look", b.look(), "-1,234,567.89");
    }
}
