import java.math.BigDecimal;
import java.math.BigInteger;

/** A NumberDress with calls that read well in tests, and a count of the answers that were not due. */
final class Bench {
    private static final BigInteger BILLION = BigInteger.valueOf(1000000000L);

    private int wrong = 0;
    private int asked = 0;
    NumberDress dress = new NumberDress();

    void anew() {
        dress = new NumberDress();
    }

    void due(String what, Object got, Object want) {
        asked++;
        if (!got.equals(want)) {
            wrong++;
            System.out.println(what + " answered " + got + ", due is " + want);
        }
    }

    /** Types the text from the start, in words of four characters. */
    void typed(String text) {
        dress.erase();
        for (int i = 0; i < text.length(); i += 4) {
            int word = 0;
            for (int k = i; k < i + 4 && k < text.length(); k++) {
                word = word << 8 | text.charAt(k);
            }
            dress.type(word);
        }
    }

    int code(String text) {
        typed(text);
        return dress.code();
    }

    void number(String decimal) {
        boolean negative = decimal.startsWith("-");
        BigDecimal n = new BigDecimal(negative ? decimal.substring(1) : decimal);
        BigInteger[] parts = n.unscaledValue().divideAndRemainder(BILLION);
        dress.number(negative, parts[0].intValueExact(), parts[1].intValueExact(), -n.scale());
    }

    void text(String text) {
        typed(text);
        dress.text();
    }

    String look() {
        int length = dress.look();
        StringBuilder all = new StringBuilder();
        for (int i = 0; i < length; i++) {
            all.append((char) dress.at(i));
        }
        return all.toString();
    }

    void dueCode(String code, int want) {
        due("code " + code, code(code), want);
    }

    /** The look of a number in a code that must be right. */
    void dueLook(String code, String decimal, String want) {
        dueCode(code, NumberDress.NONE);
        number(decimal);
        due(code + " of " + decimal, look(), want);
    }

    void dueTextLook(String code, String text, String want) {
        dueCode(code, NumberDress.NONE);
        text(text);
        due(code + " of text " + text, look(), want);
    }

    void dueThrow(String what, Runnable call, Class<? extends RuntimeException> want) {
        Class<?> got = null;
        try {
            call.run();
        } catch (RuntimeException e) {
            got = e.getClass();
        }
        due(what + " throws", String.valueOf(got), String.valueOf(want));
    }

    void end() {
        System.out.println(asked + " answers, " + wrong + " of them not as due");
        if (wrong != 0) {
            System.exit(1);
        }
    }
}
