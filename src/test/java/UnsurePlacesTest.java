/**
 * The five places of the document that can be read in more than one way: each with its sentences, how they are read
 * here, and answers that would be others under the other reading.
 */
public final class UnsurePlacesTest {
    private static final String NOON = "2.52152777777778";

    public static void main(String[] args) {
        Bench b = new Bench();
        signOfFraction(b);
        restAsFraction(b);
        numeratorAsWholeDigits(b);
        partsBehindSeconds(b);
        severalParts(b);
        digitsOfParts(b);
        kindOfFourth(b);
        signsInFourth(b);
        itemsInFourth(b);
        semicolonInOpenQuotes(b);
        openQuotesAreNone(b);
        openQuotesAreWrong(b);
        nothingBeforeMinutes(b);
        b.end();
    }

    /** Its digits are those of the whole part and of n: the denominator alone, always above 0, makes no sign. */
    private static void signOfFraction(Bench b) {
        b.sentence("in all others its look begins with - if it is below 0 (but not when all its digits that are shown are 0, or "
            + "none is shown at all, nor in a date)");
        b.dueLook("0/8", "-0.01", "0/8");
        b.dueLook("0/0", "-0.01", "0/1");
        b.dueLook("?/?", "-0.01", " /1");
        b.dueLook("#/#", "-0.01", "/1");
        b.dueLook("#/100", "-0.001", "/100");
        b.dueLook("\"5\"0/8", "-0.01", "50/8");
        b.dueLook("0/8", "-0.1", "-1/8");
        b.dueLook("#/#", "-0.1", "-1/9");
        b.dueLook("0/8", "-1", "-8/8");
        b.dueLook("0 0/8", "-0.01", "0    ");
        b.dueLook("# 0/8", "-0.01", "    ");
        b.dueLook("0 0/8", "-0.99", "-1    ");
        b.dueLook("# 0/8", "-0.1", "- 1/8");
        b.dueLook("#/#", "-1000000000", "#");
    }

    private static void restAsFraction(Bench b) {
        b.sentence("FRACTION: the number's whole part, and the rest as n / d");
        b.dueLook("0 0/8", "-1.01", "-1    ");
        b.dueLook("0 0/8", "-1.1", "-1 1/8");
        b.dueLook("0 0/8", "-0.1", "-0 1/8");
        b.dueLook("0 0/0", "-0.01", "0    ");
        b.dueLook("0 0/999", "-0.0001", "0      ");
        b.dueLook("0/8;@", "-0.01", "0/8");
        b.dueLook("0;0/8", "-0.1", "1/8");
    }

    /** As whole digits: none for 0, so that a place of n gives a 0, a space or nothing, and no digit of the number. */
    private static void numeratorAsWholeDigits(Bench b) {
        b.sentence("n in the numerator's places, as whole digits, /, and d");
        b.dueLook("00/8", "-0.01", "00/8");
        b.dueLook("00/8", "-0.1", "-01/8");
        b.dueLook("0?#/8", "-0.01", "0 /8");
        b.dueLook("?/??", "-0.001", " /1 ");
        b.dueLook("?/00", "-0.001", " /01");
        b.dueLook("?/??", "-0.01", "-1/99");
        b.dueLook("\"-\"#/8", "-0.01", "-/8");
    }

    /** Each PARTS stands behind seconds of its own, and its zeros are counted alone. */
    private static void partsBehindSeconds(Bench b) {
        b.sentence("directly behind a row of S, or [ of s ], a point and one to three 0 (all that stand there: with four the item "
            + "can not stand): PARTS of the second");
        b.dueRight("s.0 s.00 s.000", "s.000s.000", "ss.00[s].00[ss].0", "s.0;s.000;s.00");
        b.dueCode("s.000 .0", 7);
        b.dueCode("s.000.0", 6);
        b.dueCode("s.0000 s.0", 1);
        b.dueCode("s.0 s.0000", 5);
    }

    /** Tenths, hundredths, thousandths: a section has as many of these as its longest PARTS; shorter ones are cut. */
    private static void severalParts(Bench b) {
        b.sentence("the seconds that it makes are rounded to as many parts as the section has of the second (at most three; halves "
            + "up), and may make a day more; below them all is cut off.");
        b.dueLook("s.0 s.000", "0.00001", "0.8 0.864");
        b.dueLook("s.000 s.0", "0.00001", "0.864 0.8");
        b.dueLook("s.0 s.0", "0.00001", "0.9 0.9");
        b.dueLook("s.00 s.0", "0.00001", "0.86 0.8");
        b.dueLook("s.0 s.0 s.0", "0.00001", "0.9 0.9 0.9");
        b.dueLook("s.00 [s].00", "0.00000115", "0.10 0.10");
        b.dueLook("s.000 s.000", "0.00001", "0.864 0.864");
        b.dueLook("s s.0", "0.00001", "0 0.9");
        b.dueLook("s;s.000", "0.00001", "1");
        b.dueLook("d s.0 s.0", "1.9999997", "2 0.0 0.0");
        b.dueLook("d s.00 s.0", "1.9999997", "1 59.97 59.9");
        b.dueLook("d s.0 s.00 m", "1.9999997", "1 59.9 59.97 1");
        b.dueLook("h:mm s.0 s.0", "0.4999997", "12:00 0.0 0.0");
    }

    private static void digitsOfParts(Bench b) {
        b.sentence("parts: a point and digits");
        b.dueLook("s.0 s.00 s.000", "0.00001", "0.8 0.86 0.864");
        b.dueLook("s.000 s.00 s.0", "0.00001", "0.864 0.86 0.8");
        b.dueLook("s.000 s.0", "0", "0.000 0.0");
        b.dueLook("[s].0 s.000", "1.00001", "86400.8 0.864");
    }

    /** The fourth section's kind is found as any other's is; only then the item that makes it can not stand. */
    private static void kindOfFourth(Bench b) {
        b.sentence("The KIND of a section: that of the first of its items which is, or begins with,");
        b.dueCode(";;;,#", 3);
        b.dueCode(";;;,?", 3);
        b.dueCode(";;;,[h]", 4);
        b.dueCode(";;;,a/p", 4);
        b.dueCode(";;;,@0", 5);
        b.dueCode(";;;,d0", 4);
        b.dueCode(";;;,\\0", NumberDress.NONE);
        b.dueCode(";;;,\\00", 3);
    }

    /** A comma or stroke of a section that would be a NUMBER is judged as a NUMBER's, in the fourth section, too. */
    private static void signsInFourth(Bench b) {
        b.sentence("(What is no item at all is passed over for this, character by character.) In PLAIN, DATE and TEXT sections . , "
            + "/ % are literals, too.");
        b.dueCode(";;;,0", 3);
        b.dueCode(";;;/0", 3);
        b.dueCode(";;;..0", 4);
        b.dueCode(";;;\"a\",0", 6);
        b.dueCode(";;;,x0", 3);
        b.dueCode(";;;,d", 4);
        b.dueCode(";;;/d", 4);
        b.dueCode(";;;..d", 5);
        b.dueCode(";;;,x", 4);
        b.dueRight(";;;,", ";;;/", ";;;..", ";;;,@", ";;;/@", ";;;..@");
    }

    private static void itemsInFourth(Bench b) {
        b.sentence("the fourth is TEXT or PLAIN (the first item that makes it another one can not stand; the word GENERAL at its "
            + "first character). The code is WRONG at the first item (or ;) that can not stand where it stands: at the place of "
            + "its first character (how many are before it)");
        b.dueCode(";;;.0", 4);
        b.dueCode(";;;%0", 4);
        b.dueCode(";;;%.0,", 5);
        b.dueCode(";;;0,,0", 3);
        b.dueCode(";;;x0", 3);
        b.dueCode(";;;-x0", 4);
        b.dueCode(";;;-0x", 4);
        b.dueCode(";;;[hhh]", 3);
        b.dueCode(";;;yyy", 3);
        b.dueCode(";;;s.0000", 3);
        b.dueCode(";;;General", 3);
        b.dueCode(";;;General0", 3);
        b.dueCode(";;;0;", 3);
        b.dueCode(";;;-;", 4);
    }

    /** Quotes that are never closed are no quotes: a ; behind their beginning is one between sections. */
    private static void semicolonInOpenQuotes(Bench b) {
        b.sentence("one to four SECTIONS, ; between each two (but a ; in quotes, or behind \\ _ *, is none of these)");
        b.dueCode(",\"a;0", 1);
        b.dueCode("..\"a;0", 2);
        b.dueCode(",\"a;0\"0", 0);
        b.dueCode("/\";0", 1);
        b.dueCode("@;\"", 1);
        b.dueCode(",\"a\\;0", 0);
        b.dueCode(",\"_;*;0", 0);
    }

    private static void openQuotesAreNone(Bench b) {
        b.sentence("QUOTES, \" and all to the next \"");
        b.dueCode(",\"0", 0);
        b.dueCode(",\"d", 1);
        b.dueCode(",\"0\"", NumberDress.NONE);
        b.dueCode(",\"0\"0", 0);
        b.dueCode(",\"0\"\"d", 4);
        b.dueCode(",\"d\"\"0", 0);
    }

    private static void openQuotesAreWrong(Bench b) {
        b.sentence("a character that begins no item is wrong itself, and so is one that begins an item which the rest of the code "
            + "does not go on with");
        b.dueCode("\"ab", 0);
        b.dueCode("0;\"a;b", 2);
        b.dueCode("0\"a;x", 1);
        b.dueCode("\"a\"\"", 3);
        b.dueCode(";;;\"", 3);
        b.dueCode(";;;\";", 3);
        b.dueCode("\\\"\"", 2);
    }

    /** These items are those of a DATE; what is nothing (a colour, * and a character) is none of them. */
    private static void nothingBeforeMinutes(Bench b) {
        b.sentence("M of 1 or 2 are MINUTES when the last of all these items before it in the section (literals are passed over, no "
            + "other) is H or [ of h ], or the next one is S or [ of s ]");
        b.dueLook("h[red]m", NOON, "1231");
        b.dueLook("h*xm", NOON, "1231");
        b.dueLook("h\"\"m", NOON, "1231");
        b.dueLook("[h]:[red]m", NOON, "60:31");
        b.dueLook("m[red]s", NOON, "310");
        b.dueLook("m*x:s", NOON, "31:0");
        b.dueLook("m\"\"[s]", NOON, "31217860");
        b.dueLook("h a/p m", NOON, "12 P 1");
        b.dueLook("m a/p s", NOON, "1 P 0");
        b.dueLook("h s.0 m", NOON, "12 0.0 1");
        b.dueLook("h[red]d m", NOON, "122 1");
    }
}
