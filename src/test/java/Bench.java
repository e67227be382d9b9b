import java.io.IOException;
import java.io.UncheckedIOException;
import java.math.BigDecimal;
import java.math.BigInteger;
import java.nio.file.Files;
import java.nio.file.Path;

/** A NumberDress with calls that read well in tests, and a count of the answers that were not due. */
final class Bench {
    private static final BigInteger BILLION = BigInteger.valueOf(1000000000L);
    private static final Path DOCUMENT = Path.of("..", "shared", "DOC.md");
    // Nothing is promised of an object behind its 512th call: a new code is taken by a new object long before.
    private static final int MANY_CALLS = 150;

    private int wrong = 0;
    private int asked = 0;
    private int sentences = 0;
    private int askedBefore = 0;
    private String document = "";
    private String sentence = "";
    private int calls = 0;
    NumberDress dress = new NumberDress();

    void anew() {
        dress = new NumberDress();
        calls = 0;
    }

    /**
     * Names the document's sentence (or the part of one) that the answers from here on belong to, on a new object.
     * It must stand in the document word for word, so that a test can not outlive its sentence.
     */
    void sentence(String words) {
        endSentence();
        if (document.isEmpty()) {
            document = readDocument();
        }
        sentence = words;
        sentences++;
        if (!document.contains(words)) {
            wrong++;
            System.out.println("the document does not say: " + words);
        }
        askedBefore = asked;
        anew();
    }

    private void endSentence() {
        if (sentences > 0 && asked == askedBefore) {
            wrong++;
            System.out.println("nothing is asked of: " + sentence);
        }
    }

    private static String readDocument() {
        try {
            return Files.readString(DOCUMENT).replaceAll("\\s+", " ");
        } catch (IOException e) {
            throw new UncheckedIOException(e);
        }
    }

    void due(String what, Object got, Object want) {
        asked++;
        if (!got.equals(want)) {
            wrong++;
            System.out.println(what + " answered " + got + ", due is " + want);
            if (!sentence.isEmpty()) {
                System.out.println("    by: " + sentence);
            }
        }
    }

    /** Types the text from the start, in words of four characters. */
    void typed(String text) {
        dress.erase();
        calls += 1 + (text.length() + 3) / 4;
        for (int i = 0; i < text.length(); i += 4) {
            int word = 0;
            for (int k = i; k < i + 4 && k < text.length(); k++) {
                word = word << 8 | text.charAt(k);
            }
            dress.type(word);
        }
    }

    int code(String text) {
        typed(text);
        calls++;
        return dress.code();
    }

    void number(String decimal) {
        boolean negative = decimal.startsWith("-");
        BigDecimal n = new BigDecimal(negative ? decimal.substring(1) : decimal);
        BigInteger[] parts = n.unscaledValue().divideAndRemainder(BILLION);
        calls++;
        dress.number(negative, parts[0].intValueExact(), parts[1].intValueExact(), -n.scale());
    }

    void text(String text) {
        typed(text);
        calls++;
        dress.text();
    }

    String look() {
        int length = dress.look();
        calls += 1 + length;
        StringBuilder all = new StringBuilder();
        for (int i = 0; i < length; i++) {
            all.append((char) dress.at(i));
        }
        return all.toString();
    }

    void dueCode(String code, int want) {
        if (calls > MANY_CALLS) {
            anew();
        }
        due("code " + code, code(code), want);
    }

    void dueRight(String... codes) {
        for (String code : codes) {
            dueCode(code, NumberDress.NONE);
        }
    }

    /** The look of a number in a code that must be right. */
    void dueLook(String code, String decimal, String want) {
        dueCode(code, NumberDress.NONE);
        number(decimal);
        due(code + " of " + decimal, look(), want);
    }

    void dueTextLook(String code, String text, String want) {
        dueCode(code, NumberDress.NONE);
        text(text);
        due(code + " of text " + text, look(), want);
    }

    void dueThrow(String what, Runnable call, Class<? extends RuntimeException> want) {
        Class<?> got = null;
        try {
            call.run();
        } catch (RuntimeException e) {
            got = e.getClass();
        }
        due(what + " throws", String.valueOf(got), String.valueOf(want));
    }

    void end() {
        endSentence();
        System.out.println(sentences + " sentences, " + asked + " answers, " + wrong + " of them not as due");
        if (wrong != 0) {
            System.exit(1);
        }
    }
}
