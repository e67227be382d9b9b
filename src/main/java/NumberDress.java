/** Codes that say how numbers and texts look; what each call promises stands in DOC.md. */
public final class NumberDress {
    public static final int NONE = -1;

    private static final int LONGEST = 64;
    private static final int SECTIONS = 4;

    private static final int GENERAL = 0;
    private static final int PLAIN = 1;
    private static final int NUMBER = 2;
    private static final int POWER = 3;
    private static final int FRACTION = 4;
    private static final int DATE = 5;
    private static final int TEXT = 6;

    // Items that no look shows are kept too: what stands directly behind what is asked of the row of items.
    private static final int NOTHING = 0;
    private static final int LITERAL = 1;
    private static final int WHOLE = 2;
    private static final int DECIMAL = 3;
    private static final int POINT = 4;
    private static final int THOUSANDS = 5;
    private static final int THOUSANDTH = 6;
    private static final int POWER_SIGN = 7;
    private static final int POWER_PLACE = 8;
    private static final int NUMERATOR = 9;
    private static final int STROKE = 10;
    private static final int DENOMINATOR = 11;
    private static final int GIVEN_DIGIT = 12;
    private static final int WORD = 13;

    // All items of a date come last, so that one comparison tells them from the others.
    private static final int YEAR = 20;
    private static final int MONTH = 21;
    private static final int DAY = 22;
    private static final int HOUR = 23;
    private static final int MINUTE = 24;
    private static final int SECOND = 25;
    private static final int ALL_HOURS = 26;
    private static final int ALL_MINUTES = 27;
    private static final int ALL_SECONDS = 28;
    private static final int PARTS = 29;
    private static final int HALF_DAY = 30;

    private static final long[] TENS = {
        1L, 10L, 100L, 1000L, 10000L, 100000L, 1000000L, 10000000L, 100000000L, 1000000000L,
        10000000000L, 100000000000L, 1000000000000L, 10000000000000L, 100000000000000L,
        1000000000000000L, 10000000000000000L, 100000000000000000L, 1000000000000000000L
    };

    private final char[] typed = new char[LONGEST];
    private int typedLength;
    private Code current = new Code();
    private final Reader reader = new Reader();
    private final Value value = new Value();
    private final Dresser dresser = new Dresser();
    private final Look shown = new Look();

    public NumberDress() {
    }

    public int type(int word) throws IllegalArgumentException, IllegalStateException {
        int more = 0;
        for (int shift = 24; shift >= 0; shift -= 8) {
            int sign = word >>> shift & 255;
            if (sign != 0 && (sign < 32 || sign > 126)) {
                throw new IllegalArgumentException("a byte is not 32 .. 126");
            }
            if (sign != 0) {
                more++;
            }
        }
        if (typedLength + more > LONGEST) {
            throw new IllegalStateException("more than 64 characters");
        }
        for (int shift = 24; shift >= 0; shift -= 8) {
            int sign = word >>> shift & 255;
            if (sign != 0 && typedLength >= 0 && typedLength < typed.length) {
                typed[typedLength] = (char) sign;
                typedLength++;
            }
        }
        return typedLength;
    }

    public void erase() {
        typedLength = 0;
    }

    public int code() {
        int wrong = reader.read(typed, typedLength);
        if (wrong == NONE) {
            current = reader.give(current);
            shown.done = false;
        }
        return wrong;
    }

    public void number(boolean negative, int high, int low, int scale) throws IllegalArgumentException {
        if (high < 0 || high > 99999999 || low < 0 || low > 999999999 || scale < -350 || scale > 300) {
            throw new IllegalArgumentException("high, low or scale is out of its range");
        }
        value.takeNumber(negative, high * 1000000000L + low, scale);
        shown.done = false;
    }

    public void text() {
        value.takeText(typed, typedLength);
        shown.done = false;
    }

    public int look() {
        dresser.dress(current, value, shown);
        return shown.length;
    }

    public int at(int i) {
        dresser.dress(current, value, shown);
        return shown.sign(i);
    }

    public int about(int what) throws IllegalArgumentException {
        if (what < 0 || what > 5) {
            throw new IllegalArgumentException("what is not 0 .. 5");
        }
        if (what == 0) {
            return current.count;
        }
        if (what == 5) {
            return current.sectionFor(value) + 1;
        }
        Section section = current.section(what - 1);
        return section == null ? NONE : section.kind;
    }

    private static long tenTo(int power) {
        return power >= 0 && power < TENS.length ? TENS[power] : 1L;
    }

    private static int digitsOf(long n) {
        int count = 0;
        while (count < TENS.length && n >= tenTo(count)) {
            count++;
        }
        return count;
    }

    /** n without its last digits, halves up; n is below 10^17, so that a cut of more than 17 leaves nothing. */
    private static long cutRounded(long n, int cut) {
        if (cut <= 0) {
            return n;
        }
        if (cut > 17) {
            return 0;
        }
        long unit = tenTo(cut);
        long kept = n / unit;
        long lost = n - kept * unit;
        return lost >= unit - lost ? kept + 1 : kept;
    }

    /** The value that is to be dressed: a number or a text. */
    private static final class Value {
        boolean isText;
        boolean negative;
        long digits;
        int scale;
        final char[] words = new char[LONGEST];
        int wordsLength;

        void takeNumber(boolean below, long v, int s) {
            isText = false;
            negative = below && v != 0;
            digits = v;
            scale = s;
        }

        void takeText(char[] from, int length) {
            isText = true;
            wordsLength = 0;
            for (int i = 0; i < length && i < from.length && i < words.length; i++) {
                words[i] = from[i];
                wordsLength++;
            }
        }
    }

    /** What the items of one section make together. */
    private static final class Section {
        int kind = GENERAL;
        int first;
        int end;
        int wholes;
        int decimals;
        boolean point;
        boolean thousands;
        int thousandths;
        int percents;
        int powers;
        int numerators;
        int denominators;
        int given;
        int parts;
        boolean halfDays;

        void clear(int start) {
            kind = PLAIN;
            first = start;
            end = start;
            wholes = 0;
            decimals = 0;
            point = false;
            thousands = false;
            thousandths = 0;
            percents = 0;
            powers = 0;
            numerators = 0;
            denominators = 0;
            given = 0;
            parts = 0;
            halfDays = false;
        }

        boolean isBarredFromFourth() {
            return kind != PLAIN && kind != TEXT;
        }

        boolean hasCommaOrPercent() {
            return thousands || thousandths > 0 || percents > 0;
        }
    }

    /** A code that has been read: its sections, and the items of all of them in one row. */
    private static final class Code {
        final Section[] sections = new Section[SECTIONS];
        int count = 1;
        final int[] kinds = new int[LONGEST];
        final int[] marks = new int[LONGEST];
        int items;

        Code() {
            for (int i = 0; i < sections.length; i++) {
                sections[i] = new Section();
            }
        }

        void clear() {
            count = 0;
            items = 0;
        }

        Section open() {
            if (count < 0 || count >= sections.length) {
                return null;
            }
            Section section = sections[count];
            if (section != null) {
                section.clear(items);
                count++;
            }
            return section;
        }

        Section section(int index) {
            return index >= 0 && index < count && index < sections.length ? sections[index] : null;
        }

        void add(int kind, int mark) {
            if (items >= 0 && items < kinds.length && items < marks.length) {
                kinds[items] = kind;
                marks[items] = mark;
                items++;
            }
        }

        int kind(int item) {
            return item >= 0 && item < items && item < kinds.length ? kinds[item] : NOTHING;
        }

        int mark(int item) {
            return item >= 0 && item < items && item < marks.length ? marks[item] : 0;
        }

        void change(int item, int kind) {
            if (item >= 0 && item < items && item < kinds.length) {
                kinds[item] = kind;
            }
        }

        /** How many of the sections are for numbers; a text's section is always the last one. */
        int numberSections() {
            int found = 0;
            for (int i = 0; i < SECTIONS - 1; i++) {
                Section section = section(i);
                if (section != null && section.kind != TEXT) {
                    found++;
                }
            }
            return found;
        }

        int sectionFor(Value value) {
            if (value.isText) {
                return sectionForText();
            }
            int usable = numberSections();
            if (usable == 0) {
                return NONE;
            }
            if (usable >= 2 && value.negative) {
                return 1;
            }
            return usable == 3 && value.digits == 0 ? 2 : 0;
        }

        private int sectionForText() {
            Section last = section(count - 1);
            boolean takesTexts = last != null && (last.kind == TEXT || count == SECTIONS);
            return takesTexts ? count - 1 : NONE;
        }
    }

    /** Reads what is typed into a code, up to the first item that can not stand. */
    private static final class Reader {
        private char[] signs = new char[0];
        private int length;
        private Code code = new Code();
        private Section section = new Section();
        private int kindPlace;

        /** The place where the code is wrong, or NONE. */
        int read(char[] typed, int typedLength) {
            signs = typed;
            length = Math.min(typedLength, typed.length);
            code.clear();
            int from = 0;
            for (int index = 0; index < SECTIONS; index++) {
                int to = sectionEnd(from);
                int wrong = readSection(index, from, to);
                if (wrong != NONE) {
                    return wrong;
                }
                if (to >= length) {
                    return NONE;
                }
                if (section.kind == TEXT || index == SECTIONS - 1) {
                    return to;
                }
                from = to + 1;
            }
            return NONE;
        }

        /** The code that has been read, for an old one in which the next can be read. */
        Code give(Code old) {
            Code made = code;
            code = old;
            return made;
        }

        private int readSection(int index, int from, int to) {
            Section opened = code.open();
            if (opened == null) {
                return from;
            }
            section = opened;
            boolean fourth = index == SECTIONS - 1;
            if (to - from == 7 && goesOn(from, "general")) {
                section.kind = GENERAL;
                return fourth ? from : NONE;
            }
            findKind(from, to);
            boolean barred = fourth && section.isBarredFromFourth();
            int place = from;
            while (place < to) {
                int taken = barred && place >= kindPlace ? 0 : readItem(place);
                if (taken <= 0) {
                    return place;
                }
                place += taken;
            }
            section.end = code.items;
            if (section.kind == DATE) {
                findMinutes();
            }
            return NONE;
        }

        /** The place of the ; behind the section that begins here, or of the code's end. */
        private int sectionEnd(int from) {
            int place = from;
            while (place < length) {
                if (sign(place) == ';') {
                    return place;
                }
                place += Math.max(1, commonLength(place));
            }
            return length;
        }

        private void findKind(int from, int to) {
            section.kind = PLAIN;
            kindPlace = to;
            int place = from;
            while (place < to) {
                int passed = commonLength(place);
                if (passed == 0) {
                    int kind = kindMadeAt(place);
                    if (kind != PLAIN) {
                        section.kind = kind;
                        kindPlace = place;
                        return;
                    }
                }
                place += Math.max(1, passed);
            }
        }

        private int kindMadeAt(int place) {
            char sign = small(place);
            if (isPlace(sign)) {
                return NUMBER;
            }
            if (sign == '@') {
                return TEXT;
            }
            boolean date = isDateLetter(sign) || bracketRow(place) > 0 || halfDayLength(place) > 0;
            return date ? DATE : PLAIN;
        }

        /** How many characters the item takes, 0 when none can stand here. */
        private int readItem(int place) {
            int taken = commonLength(place);
            if (taken > 0) {
                addCommon(place, taken);
                return taken;
            }
            switch (section.kind) {
                case NUMBER:
                    return readNumberItem(place);
                case DATE:
                    return readDateItem(place);
                case TEXT:
                    return sign(place) == '@' ? addOne(WORD, '@') : readSign(place);
                case PLAIN:
                    return readSign(place);
                default:
                    // Behind a power or a fraction only the items of all sections come.
                    return 0;
            }
        }

        /** The length of the item of all sections that begins here, 0 when there is none. */
        private int commonLength(int place) {
            char sign = sign(place);
            switch (sign) {
                case '"':
                    return quotesLength(place);
                case '\\':
                case '_':
                case '*':
                    return place + 1 < length ? 2 : 0;
                case '[':
                    return colourLength(place);
                default:
                    return isOwnLiteral(sign) ? 1 : 0;
            }
        }

        private void addCommon(int place, int taken) {
            switch (sign(place)) {
                case '"':
                    code.add(NOTHING, 0);
                    for (int i = 1; i < taken - 1; i++) {
                        code.add(LITERAL, sign(place + i));
                    }
                    break;
                case '\\':
                    code.add(LITERAL, sign(place + 1));
                    break;
                case '_':
                    code.add(LITERAL, ' ');
                    break;
                case '*':
                case '[':
                    code.add(NOTHING, 0);
                    break;
                default:
                    code.add(LITERAL, sign(place));
                    break;
            }
        }

        private int quotesLength(int place) {
            for (int end = place + 1; end < length; end++) {
                if (sign(end) == '"') {
                    return end - place + 1;
                }
            }
            return 0;
        }

        private int colourLength(int place) {
            for (int i = 0; i < 8; i++) {
                String name = colour(i);
                if (goesOn(place, name)) {
                    return name.length();
                }
            }
            return 0;
        }

        private int readSign(int place) {
            char sign = sign(place);
            boolean literal = sign == '.' || sign == ',' || sign == '/' || sign == '%';
            return literal ? addOne(LITERAL, sign) : 0;
        }

        private int addOne(int kind, int mark) {
            code.add(kind, mark);
            return 1;
        }

        private int readNumberItem(int place) {
            char sign = small(place);
            switch (sign) {
                case '0':
                case '#':
                case '?':
                    return readPlace(sign);
                case '.':
                    return readPoint();
                case ',':
                    return readComma(place);
                case '%':
                    section.percents++;
                    return addOne(LITERAL, sign);
                case 'e':
                    return readPower(place);
                case '/':
                    return readFraction(place);
                default:
                    return 0;
            }
        }

        private int readPlace(char sign) {
            if (section.point) {
                section.decimals++;
                return addOne(DECIMAL, sign);
            }
            if (section.thousandths > 0) {
                return 0;
            }
            section.wholes++;
            return addOne(WHOLE, sign);
        }

        private int readPoint() {
            if (section.point) {
                return 0;
            }
            section.point = true;
            return addOne(POINT, '.');
        }

        private int readComma(int place) {
            int before = kindBefore();
            if (before == WHOLE && isPlace(sign(place + 1))) {
                section.thousands = true;
                return addOne(THOUSANDS, ',');
            }
            if (before == WHOLE || before == THOUSANDTH) {
                section.thousandths++;
                return addOne(THOUSANDTH, ',');
            }
            return 0;
        }

        private int readPower(int place) {
            int before = kindBefore();
            char plusOrMinus = sign(place + 1);
            int places = placesFrom(place + 2);
            boolean goesOn = (plusOrMinus == '+' || plusOrMinus == '-') && places > 0;
            boolean stands = (before == WHOLE || before == DECIMAL) && !section.hasCommaOrPercent();
            if (!goesOn || !stands) {
                return 0;
            }
            section.kind = POWER;
            section.powers = places;
            code.add(POWER_SIGN, plusOrMinus);
            for (int i = 0; i < places; i++) {
                code.add(POWER_PLACE, sign(place + 2 + i));
            }
            return 2 + places;
        }

        private int readFraction(int place) {
            int places = placesFrom(place + 1);
            int digits = digitsFrom(place + 1);
            boolean stands = kindBefore() == WHOLE && !section.hasCommaOrPercent() && !section.point;
            if (!stands || places + digits == 0) {
                return 0;
            }
            section.kind = FRACTION;
            makeNumerator();
            code.add(STROKE, '/');
            for (int i = 0; i < places; i++) {
                code.add(DENOMINATOR, sign(place + 1 + i));
            }
            for (int i = 0; i < digits; i++) {
                code.add(GIVEN_DIGIT, sign(place + 1 + i));
                section.given = section.given * 10 + (sign(place + 1 + i) - '0');
            }
            section.denominators = places;
            return 1 + places + digits;
        }

        private void makeNumerator() {
            for (int i = code.items - 1; i >= section.first && code.kind(i) == WHOLE; i--) {
                code.change(i, NUMERATOR);
                section.numerators++;
                section.wholes--;
            }
        }

        private int placesFrom(int place) {
            int count = 0;
            while (count < 3 && isPlace(sign(place + count))) {
                count++;
            }
            return count;
        }

        private int digitsFrom(int place) {
            int count = 0;
            while (count < 3 && isDigit(sign(place + count)) && sign(place) != '0') {
                count++;
            }
            return count;
        }

        private int readDateItem(int place) {
            char sign = small(place);
            if (isDateLetter(sign)) {
                return readRow(place, sign);
            }
            if (sign == '[') {
                return readInAll(place, bracketRow(place));
            }
            if (sign == 'a') {
                return readHalfDay(halfDayLength(place));
            }
            return sign == '.' ? readParts(place) : readSign(place);
        }

        private int readRow(int place, char letter) {
            int row = rowLength(place);
            switch (letter) {
                case 'y':
                    return row == 2 || row == 4 ? addRow(YEAR, row) : 0;
                case 'm':
                    return row <= 5 ? addRow(MONTH, row) : 0;
                case 'd':
                    return row <= 4 ? addRow(DAY, row) : 0;
                case 'h':
                    return row <= 2 ? addRow(HOUR, row) : 0;
                default:
                    return row <= 2 ? addRow(SECOND, row) : 0;
            }
        }

        private int addRow(int kind, int row) {
            code.add(kind, row);
            return row;
        }

        private int readInAll(int place, int row) {
            if (row < 1 || row > 2) {
                return 0;
            }
            char letter = small(place + 1);
            code.add(letter == 'h' ? ALL_HOURS : letter == 'm' ? ALL_MINUTES : ALL_SECONDS, row);
            return row + 2;
        }

        private int readHalfDay(int taken) {
            if (taken > 0) {
                section.halfDays = true;
                code.add(HALF_DAY, taken == 5 ? 2 : 1);
            }
            return taken;
        }

        private int readParts(int place) {
            int before = kindBefore();
            int zeros = sign(place + 1) == '0' ? rowLength(place + 1) : 0;
            if (zeros == 0 || before != SECOND && before != ALL_SECONDS) {
                return addOne(LITERAL, '.');
            }
            if (zeros > 3) {
                return 0;
            }
            section.parts = Math.max(section.parts, zeros);
            code.add(PARTS, zeros);
            return 1 + zeros;
        }

        private void findMinutes() {
            for (int i = section.first; i < section.end; i++) {
                boolean mayBe = code.kind(i) == MONTH && code.mark(i) <= 2;
                if (mayBe && (isBehindHours(i) || isBeforeSeconds(i))) {
                    code.change(i, MINUTE);
                }
            }
        }

        private boolean isBehindHours(int item) {
            int i = item - 1;
            while (i >= section.first && code.kind(i) < YEAR) {
                i--;
            }
            int kind = i >= section.first ? code.kind(i) : NOTHING;
            return kind == HOUR || kind == ALL_HOURS;
        }

        private boolean isBeforeSeconds(int item) {
            int i = item + 1;
            while (i < section.end && code.kind(i) < YEAR) {
                i++;
            }
            int kind = i < section.end ? code.kind(i) : NOTHING;
            return kind == SECOND || kind == ALL_SECONDS;
        }

        private int kindBefore() {
            int last = code.items - 1;
            return last >= section.first ? code.kind(last) : NOTHING;
        }

        private char sign(int place) {
            return place >= 0 && place < length && place < signs.length ? signs[place] : 0;
        }

        private char small(int place) {
            char sign = place >= 0 && place < length && place < signs.length ? signs[place] : 0;
            return sign >= 'A' && sign <= 'Z' ? (char) (sign + 32) : sign;
        }

        private boolean goesOn(int place, String word) {
            for (int i = 0; i < word.length(); i++) {
                if (small(place + i) != word.charAt(i)) {
                    return false;
                }
            }
            return true;
        }

        private int rowLength(int place) {
            int row = 1;
            while (row < LONGEST && small(place + row) == small(place)) {
                row++;
            }
            return row;
        }

        /** How long the row in [hh] is, 0 when no such item begins here. */
        private int bracketRow(int place) {
            char letter = small(place + 1);
            if (sign(place) != '[' || letter != 'h' && letter != 'm' && letter != 's') {
                return 0;
            }
            int row = rowLength(place + 1);
            return sign(place + 1 + row) == ']' ? row : 0;
        }

        private int halfDayLength(int place) {
            if (goesOn(place, "am/pm")) {
                return 5;
            }
            return goesOn(place, "a/p") ? 3 : 0;
        }

        private static boolean isPlace(char sign) {
            return sign == '0' || sign == '#' || sign == '?';
        }

        private static boolean isDigit(char sign) {
            return sign >= '0' && sign <= '9';
        }

        private static boolean isDateLetter(char sign) {
            return sign == 'y' || sign == 'm' || sign == 'd' || sign == 'h' || sign == 's';
        }

        private static boolean isOwnLiteral(char sign) {
            return sign != 0 && " $-+():!^&'~{}<>=".indexOf(sign) >= 0;
        }

        private static String colour(int i) {
            switch (i) {
                case 0:
                    return "[black]";
                case 1:
                    return "[blue]";
                case 2:
                    return "[cyan]";
                case 3:
                    return "[green]";
                case 4:
                    return "[magenta]";
                case 5:
                    return "[red]";
                case 6:
                    return "[white]";
                default:
                    return "[yellow]";
            }
        }
    }

    /** A number as its first digits and how many zeros come behind them, the last decimals of all behind the point. */
    private static final class Digits {
        private long head;
        private int zeros;
        private int count;
        private int decimals;

        void take(long first, int zerosBehind, int decimalsOfAll) {
            head = first;
            zeros = first == 0 ? 0 : zerosBehind;
            count = first == 0 ? 0 : digitsOf(first) + zerosBehind;
            decimals = decimalsOfAll;
        }

        /** v times 10^power, rounded to so many decimals, halves away from 0. */
        void round(long v, int power, int places) {
            int cut = -power - places;
            if (cut > 0) {
                take(cutRounded(v, cut), 0, places);
            } else {
                take(v, -cut, places);
            }
        }

        boolean isZero() {
            return count == 0;
        }

        int wholes() {
            return Math.max(0, count - decimals);
        }

        /** The digit that counts 10^place. */
        int digit(int place) {
            int back = place + decimals - zeros;
            if (back < 0 || back >= TENS.length) {
                return 0;
            }
            return (int) (head / tenTo(back) % 10);
        }

        boolean isZeroFrom(int place) {
            for (int p = place; p >= -decimals; p--) {
                if (digit(p) != 0) {
                    return false;
                }
            }
            return true;
        }

        /** The whole number, where it has at most 17 digits. */
        long small() {
            return head * tenTo(zeros);
        }
    }

    /** A number's whole part, and the rest in parts of 10^15, which may be all 10^15 of them by rounding. */
    private static final class Split {
        static final long ALL = 1000000000000000L;

        final Digits whole = new Digits();
        long rest;

        void take(Value value) {
            if (value.scale >= 0) {
                whole.take(value.digits, value.scale, 0);
                rest = 0;
                return;
            }
            int behind = -value.scale;
            boolean allBehind = behind > 17;
            long above = allBehind ? 0 : value.digits / tenTo(behind);
            long below = allBehind ? value.digits : value.digits % tenTo(behind);
            whole.take(above, 0, 0);
            rest = behind <= 15 ? below * tenTo(15 - behind) : cutRounded(below, behind - 15);
        }
    }

    /** The row of characters that a look is; it grows where a look needs it and is used again. */
    private static final class Look {
        // 64 times @ with a text of 64 characters is the longest look.
        private static final int MOST = LONGEST * LONGEST;

        private char[] row = new char[LONGEST];
        int length;
        // A look is kept until the code or the value changes, since it is asked for sign by sign.
        boolean done;

        void clear() {
            length = 0;
        }

        int sign(int i) {
            return i >= 0 && i < length && i < row.length ? row[i] : NONE;
        }

        void put(int sign) {
            if (length >= row.length && row.length < MOST) {
                char[] longer = new char[row.length * 2];
                System.arraycopy(row, 0, longer, 0, row.length);
                row = longer;
            }
            if (length >= 0 && length < row.length) {
                row[length] = (char) sign;
                length++;
            }
        }

        void putAll(String words) {
            for (int i = 0; i < words.length(); i++) {
                put(words.charAt(i));
            }
        }

        void putTimes(int sign, int times) {
            for (int i = 0; i < times; i++) {
                put(sign);
            }
        }

        /** A whole number with so many digits at least. */
        void putNumber(long n, int least) {
            for (int place = TENS.length - 1; place >= 0; place--) {
                long unit = tenTo(place);
                if (place < least || n >= unit) {
                    put((int) ('0' + n / unit % 10));
                }
            }
        }

        /** One of so many places for whole digits, and before the first one the digits left over. */
        void putPlace(Digits digits, int mark, int behind, int places, boolean thousands) {
            int wholes = digits.wholes();
            int from = behind == places - 1 ? Math.max(wholes - 1, behind) : behind;
            for (int place = from; place >= behind; place--) {
                boolean given = place < wholes || mark == '0';
                if (given) {
                    put('0' + digits.digit(place));
                } else if (mark == '?') {
                    put(' ');
                }
                if (given && thousands && place > 0 && place % 3 == 0) {
                    put(',');
                }
            }
        }
    }

    /** Finds the section that a value takes and lets it be dressed by the section's kind. */
    private static final class Dresser {
        private final NumberDresser numbers = new NumberDresser();
        private final FractionDresser fractions = new FractionDresser();
        private final DateDresser dates = new DateDresser();

        void dress(Code code, Value value, Look look) {
            if (look.done) {
                return;
            }
            look.clear();
            look.done = true;
            Section section = code.section(code.sectionFor(value));
            boolean minus = value.negative && code.numberSections() < 2;
            int kind = section == null ? GENERAL : section.kind;
            if (value.isText && section == null) {
                putText(value, look);
            } else if (section == null || kind == GENERAL) {
                dressGeneral(value, minus, look);
            } else if (kind == NUMBER || kind == POWER) {
                numbers.dress(code, section, value, minus, look);
            } else if (kind == FRACTION) {
                fractions.dress(code, section, value, minus, look);
            } else if (kind == DATE) {
                dates.dress(code, section, value, minus, look);
            } else {
                dressWords(code, section, value, look);
            }
        }

        private void dressWords(Code code, Section section, Value value, Look look) {
            for (int i = section.first; i < section.end; i++) {
                int kind = code.kind(i);
                if (kind == LITERAL) {
                    look.put(code.mark(i));
                } else if (kind == WORD) {
                    putText(value, look);
                }
            }
        }

        private void putText(Value value, Look look) {
            for (int i = 0; i < value.wordsLength && i < value.words.length; i++) {
                look.put(value.words[i]);
            }
        }

        private void dressGeneral(Value value, boolean minus, Look look) {
            long digits = value.digits;
            int scale = value.scale;
            if (digits == 0) {
                look.put('0');
                return;
            }
            for (int i = 0; i < TENS.length && digits % 10 == 0; i++) {
                digits /= 10;
                scale++;
            }
            if (minus) {
                look.put('-');
            }
            int count = digitsOf(digits);
            int power = count + scale;
            if (power < -5 || power > 21) {
                putWithPower(digits, count, power - 1, look);
            } else if (power <= 0) {
                look.putAll("0.");
                look.putTimes('0', -power);
                look.putNumber(digits, 1);
            } else {
                putWithPoint(digits, count, power, look);
            }
        }

        /** The digits with a point behind so many of them, or with zeros up to where it would stand. */
        private void putWithPoint(long digits, int count, int before, Look look) {
            int behind = count - before;
            if (behind <= 0) {
                look.putNumber(digits, 1);
                look.putTimes('0', -behind);
            } else {
                long unit = tenTo(behind);
                look.putNumber(digits / unit, 1);
                look.put('.');
                look.putNumber(digits % unit, behind);
            }
        }

        private void putWithPower(long digits, int count, int power, Look look) {
            putWithPoint(digits, count, 1, look);
            look.put('E');
            if (power < 0) {
                look.put('-');
            }
            look.putNumber(Math.abs(power), 1);
        }
    }

    /** Dresses numbers in places, with a power or without one. */
    private static final class NumberDresser {
        private final Digits digits = new Digits();
        private final Digits powerDigits = new Digits();
        private int power;

        void dress(Code code, Section section, Value value, boolean minus, Look look) {
            if (section.kind == POWER) {
                takeWithPower(section, value);
            } else {
                int shift = 2 * section.percents - 3 * section.thousandths;
                digits.round(value.digits, value.scale + shift, section.decimals);
            }
            if (minus && !digits.isZero()) {
                look.put('-');
            }
            putItems(code, section, look);
        }

        private void takeWithPower(Section section, Value value) {
            int wholes = Math.max(1, section.wholes);
            int first = digitsOf(value.digits) + value.scale - 1;
            power = value.digits == 0 ? 0 : Math.floorDiv(first, wholes) * wholes;
            digits.round(value.digits, value.scale - power, section.decimals);
            if (digits.wholes() > wholes) {
                power += wholes;
                digits.round(value.digits, value.scale - power, section.decimals);
            }
            powerDigits.take(Math.abs(power), 0, 0);
        }

        private void putItems(Code code, Section section, Look look) {
            int wholesLeft = section.wholes;
            int decimalsDone = 0;
            int powersLeft = section.powers;
            for (int i = section.first; i < section.end; i++) {
                int mark = code.mark(i);
                switch (code.kind(i)) {
                    case LITERAL:
                        look.put(mark);
                        break;
                    case WHOLE:
                        wholesLeft--;
                        look.putPlace(digits, mark, wholesLeft, section.wholes, section.thousands);
                        break;
                    case POINT:
                        putPoint(section, look);
                        break;
                    case DECIMAL:
                        decimalsDone++;
                        putDecimal(mark, -decimalsDone, look);
                        break;
                    case POWER_SIGN:
                        putPowerSign(mark, look);
                        break;
                    case POWER_PLACE:
                        powersLeft--;
                        look.putPlace(powerDigits, mark, powersLeft, section.powers, false);
                        break;
                    default:
                        break;
                }
            }
        }

        private void putPoint(Section section, Look look) {
            int loose = section.wholes == 0 ? digits.wholes() : 0;
            for (int place = loose - 1; place >= 0; place--) {
                look.put('0' + digits.digit(place));
            }
            look.put('.');
        }

        private void putDecimal(int mark, int place, Look look) {
            if (mark == '0' || !digits.isZeroFrom(place)) {
                look.put('0' + digits.digit(place));
            } else if (mark == '?') {
                look.put(' ');
            }
        }

        private void putPowerSign(int mark, Look look) {
            look.put('E');
            if (power < 0) {
                look.put('-');
            } else if (mark == '+') {
                look.put('+');
            }
        }
    }

    /** Dresses numbers as a whole part and the nearest fraction. */
    private static final class FractionDresser {
        private final Split split = new Split();
        private final Digits top = new Digits();
        private long over;
        private long under;
        private long gap;

        void dress(Code code, Section section, Value value, boolean minus, Look look) {
            split.take(value);
            if (section.wholes == 0 && split.whole.wholes() > 9) {
                look.put('#');
                return;
            }
            findNearest(section);
            if (section.wholes == 0) {
                over += under * split.whole.small();
            } else if (over == under) {
                // A rest that makes a whole more comes from a scale below 0: the whole part is small then.
                split.whole.take(split.whole.small() + 1, 0, 0);
                over = 0;
            }
            top.take(over, 0, 0);
            if (minus && !(split.whole.isZero() && top.isZero())) {
                look.put('-');
            }
            putItems(code, section, look);
        }

        private void findNearest(Section section) {
            over = 0;
            under = 0;
            gap = 0;
            if (section.given > 0) {
                tryUnder(section.given);
                return;
            }
            long most = tenTo(section.denominators) - 1;
            for (long d = 1; d <= most && d <= 999; d++) {
                tryUnder(d);
            }
            if (under == 0) {
                under = 1;
            }
        }

        /** Takes n / d for this d, if it is nearer than what has been found for smaller ones. */
        private void tryUnder(long d) {
            long product = split.rest * d;
            long n = product / Split.ALL;
            long low = product - n * Split.ALL;
            long high = Split.ALL - low;
            long nearest = low <= high ? n : n + 1;
            long distance = low <= high ? low : high;
            if (under == 0 || distance * under < gap * d) {
                over = nearest;
                under = d;
                gap = distance;
            }
        }

        private void putItems(Code code, Section section, Look look) {
            boolean blank = over == 0 && section.wholes > 0;
            int wholesLeft = section.wholes;
            int numeratorsLeft = section.numerators;
            for (int i = section.first; i < section.end; i++) {
                int kind = code.kind(i);
                int mark = code.mark(i);
                if (kind == LITERAL) {
                    look.put(mark);
                } else if (kind == WHOLE) {
                    wholesLeft--;
                    look.putPlace(split.whole, mark, wholesLeft, section.wholes, false);
                } else if (blank && isOfFraction(kind)) {
                    look.put(' ');
                } else if (kind == NUMERATOR) {
                    numeratorsLeft--;
                    look.putPlace(top, mark, numeratorsLeft, section.numerators, false);
                } else if (kind == STROKE) {
                    look.put('/');
                    putUnder(code, section, i + 1, look);
                }
            }
        }

        private static boolean isOfFraction(int kind) {
            return kind == NUMERATOR || kind == STROKE || kind == DENOMINATOR || kind == GIVEN_DIGIT;
        }

        /** The denominator whole, since places that it lacks may stand behind it as spaces. */
        private void putUnder(Code code, Section section, int from, Look look) {
            int lacks = section.denominators - digitsOf(under);
            putLacking(code, from, lacks, '0', look);
            look.putNumber(under, 1);
            putLacking(code, from, lacks, '?', look);
        }

        private void putLacking(Code code, int from, int lacks, int mark, Look look) {
            for (int i = from; i < from + lacks; i++) {
                if (code.mark(i) == mark) {
                    look.put(mark == '?' ? ' ' : mark);
                }
            }
        }
    }

    /** Dresses numbers as days with parts. */
    private static final class DateDresser {
        private static final int END = 2958466;
        private static final int MARCH_1900 = 61;
        // Years that begin with March have their leap day at the end; 1600 begins 400 years of the calendar.
        private static final int FROM_1600 = 109572;

        private final Split split = new Split();
        private long days;
        private long seconds;
        private long thousandths;
        private int year;
        private int month;
        private int day;

        void dress(Code code, Section section, Value value, boolean minus, Look look) {
            split.take(value);
            if (minus || split.whole.wholes() > 7) {
                look.put('#');
                return;
            }
            takeTime(section.parts);
            if (days >= END) {
                look.put('#');
                return;
            }
            takeDay((int) days);
            for (int i = section.first; i < section.end; i++) {
                int kind = code.kind(i);
                if (kind == LITERAL) {
                    look.put(code.mark(i));
                } else if (kind >= HOUR) {
                    putTime(kind, code.mark(i), section.halfDays, look);
                } else if (kind >= YEAR) {
                    putDay(kind, code.mark(i), look);
                }
            }
        }

        private void takeTime(int parts) {
            long unit = tenTo(parts);
            long perDay = 86400 * unit;
            long inDay = partsOfDay(perDay);
            days = split.whole.small();
            if (inDay >= perDay) {
                days++;
                inDay -= perDay;
            }
            seconds = inDay / unit;
            thousandths = inDay % unit * tenTo(3 - parts);
        }

        /** The rest times perDay, halves up; in two steps, since the product has more digits than a long. */
        private long partsOfDay(long perDay) {
            long high = split.rest / 100000000;
            long low = split.rest % 100000000;
            long product = high * perDay + low * perDay / 100000000;
            return (product + 5000000) / 10000000;
        }

        private void takeDay(int number) {
            if (number >= MARCH_1900) {
                takeCalendarDay(number - MARCH_1900 + FROM_1600);
                return;
            }
            year = 1900;
            month = number <= 31 ? 1 : 2;
            day = number <= 31 ? number : number - 31;
        }

        private void takeCalendarDay(int since) {
            int ages = since / 146097;
            int inAge = since % 146097;
            int years = (inAge - inAge / 1460 + inAge / 36524 - inAge / 146096) / 365;
            int inYear = inAge - (365 * years + years / 4 - years / 100);
            int fromMarch = (5 * inYear + 2) / 153;
            day = inYear - (153 * fromMarch + 2) / 5 + 1;
            month = fromMarch < 10 ? fromMarch + 3 : fromMarch - 9;
            year = 1600 + 400 * ages + years + (month <= 2 ? 1 : 0);
        }

        private void putDay(int kind, int row, Look look) {
            if (kind == YEAR) {
                look.putNumber(row == 2 ? year % 100 : year, row);
            } else if (row <= 2) {
                look.putNumber(kind == MONTH ? month : day, row);
            } else {
                String name = kind == MONTH ? monthName(month) : weekdayName((int) ((days + 6) % 7));
                putName(name, row, look);
            }
        }

        private void putName(String name, int row, Look look) {
            int letters = row == 3 ? 3 : row == 4 ? name.length() : 1;
            for (int i = 0; i < letters && i < name.length(); i++) {
                look.put(name.charAt(i));
            }
        }

        private void putTime(int kind, int row, boolean halfDays, Look look) {
            long hours = seconds / 3600;
            switch (kind) {
                case HOUR:
                    look.putNumber(halfDays ? (hours + 11) % 12 + 1 : hours, row);
                    break;
                case MINUTE:
                    look.putNumber(seconds / 60 % 60, row);
                    break;
                case SECOND:
                    look.putNumber(seconds % 60, row);
                    break;
                case ALL_HOURS:
                    look.putNumber(days * 24 + hours, row);
                    break;
                case ALL_MINUTES:
                    look.putNumber(days * 1440 + seconds / 60, row);
                    break;
                case ALL_SECONDS:
                    look.putNumber(days * 86400 + seconds, row);
                    break;
                case PARTS:
                    look.put('.');
                    look.putNumber(thousandths / tenTo(3 - row), row);
                    break;
                default:
                    look.put(hours < 12 ? 'A' : 'P');
                    if (row == 2) {
                        look.put('M');
                    }
                    break;
            }
        }

        private static String monthName(int month) {
            switch (month) {
                case 1:
                    return "January";
                case 2:
                    return "February";
                case 3:
                    return "March";
                case 4:
                    return "April";
                case 5:
                    return "May";
                case 6:
                    return "June";
                case 7:
                    return "July";
                case 8:
                    return "August";
                case 9:
                    return "September";
                case 10:
                    return "October";
                case 11:
                    return "November";
                default:
                    return "December";
            }
        }

        private static String weekdayName(int weekday) {
            switch (weekday) {
                case 0:
                    return "Sunday";
                case 1:
                    return "Monday";
                case 2:
                    return "Tuesday";
                case 3:
                    return "Wednesday";
                case 4:
                    return "Thursday";
                case 5:
                    return "Friday";
                default:
                    return "Saturday";
            }
        }
    }
}
