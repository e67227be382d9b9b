import java.math.BigDecimal;
import java.math.BigInteger;
import java.math.RoundingMode;
import java.time.LocalDate;
import java.time.LocalDateTime;
import java.time.format.TextStyle;
import java.util.ArrayList;
import java.util.List;
import java.util.Locale;
import java.util.regex.Matcher;
import java.util.regex.Pattern;

/** The document once more, written another way (patterns, BigDecimal, java.time), to compare the class with. */
final class Oracle {
    private static final String COMMON = "\"[^\"]*\"|[\\\\_*].|\\[(?i:black|blue|cyan|green|magenta|red|white|yellow)\\]"
        + "|[ $\\-+():!^&'~{}<>=]";
    private static final Pattern COMMON_ITEM = Pattern.compile(COMMON);
    private static final Pattern SECTION = Pattern.compile("(?:" + COMMON + "|[^;])*");
    private static final Pattern KIND = Pattern.compile(
        "(?i)(?<n>[0#?])|(?<d>[ymdhs]|\\[(h+|m+|s+)\\]|AM/PM|A/P)|(?<t>@)");
    private static final Pattern DATE_ITEM = Pattern.compile(
        "(?i)(?<Y>y+)|(?<M>m+)|(?<D>d+)|(?<H>h+)|(?<S>s+)|\\[(?<a>h+|m+|s+)\\]|(?<p>AM/PM|A/P)");
    private static final Pattern POWER_ITEM = Pattern.compile("[Ee][+-][0#?]{1,3}");
    private static final Pattern FRACTION_ITEM = Pattern.compile("/(?:[0#?]{1,3}|[1-9][0-9]{0,2})");

    /** Of one section: items as a letter for what it is and what it holds. */
    static final class Part {
        int kind;
        final List<String> items = new ArrayList<>();

        long count(char what) {
            return items.stream().filter(i -> i.charAt(0) == what).count();
        }
    }

    final List<Part> parts = new ArrayList<>();
    final int wrong;

    Oracle(String code) {
        wrong = read(code);
    }

    private int read(String code) {
        int from = 0;
        while (true) {
            Matcher m = SECTION.matcher(code).region(from, code.length());
            m.lookingAt();
            int to = m.end();
            Part part = new Part();
            parts.add(part);
            int bad = readPart(part, code.substring(from, to), parts.size() == 4);
            if (bad >= 0) {
                return from + bad;
            }
            if (to == code.length()) {
                return -1;
            }
            if (part.kind == 6 || parts.size() == 4) {
                return to;
            }
            from = to + 1;
        }
    }

    private static String match(Pattern p, String s, int at) {
        Matcher m = p.matcher(s).region(at, s.length());
        return m.lookingAt() ? m.group() : "";
    }

    private static int readPart(Part part, String s, boolean fourth) {
        if (s.equalsIgnoreCase("general")) {
            part.kind = 0;
            return fourth ? 0 : -1;
        }
        part.kind = 1;
        int maker = s.length();
        for (int i = 0; i < s.length();) {
            String common = match(COMMON_ITEM, s, i);
            Matcher m = KIND.matcher(s).region(i, s.length());
            if (common.isEmpty() && m.lookingAt()) {
                part.kind = m.group("n") != null ? 2 : m.group("d") != null ? 5 : 6;
                maker = i;
                break;
            }
            i += common.isEmpty() ? 1 : common.length();
        }
        boolean barred = fourth && (part.kind == 2 || part.kind == 5);
        for (int i = 0; i < s.length();) {
            if (barred && i == maker) {
                return i;
            }
            String common = match(COMMON_ITEM, s, i);
            int taken = common.isEmpty() ? special(part, s, i) : common(part, common);
            if (taken == 0) {
                return i;
            }
            i += taken;
        }
        return -1;
    }

    private static int common(Part part, String item) {
        switch (item.charAt(0)) {
            case '"':
                part.items.add("L" + item.substring(1, item.length() - 1));
                break;
            case '\\':
                part.items.add("L" + item.charAt(1));
                break;
            case '_':
                part.items.add("L ");
                break;
            case '*':
            case '[':
                part.items.add("L");
                break;
            default:
                part.items.add("L" + item);
                break;
        }
        return item.length();
    }

    private static int special(Part part, String s, int i) {
        char c = s.charAt(i);
        if (part.kind == 2) {
            return numberItem(part, s, i, c);
        }
        if (part.kind == 5) {
            int taken = dateItem(part, s, i, c);
            if (taken != 0) {
                return Math.max(0, taken);
            }
        }
        if (part.kind == 6 && c == '@') {
            part.items.add("@");
            return 1;
        }
        if ((part.kind == 1 || part.kind >= 5) && ".,/%".indexOf(c) >= 0) {
            part.items.add("L" + c);
            return 1;
        }
        return 0;
    }

    private static String last(Part part) {
        return part.items.isEmpty() ? " " : part.items.get(part.items.size() - 1);
    }

    // W whole, D decimal, . point, T thousands, t thousandth, % percent, E power, N numerator, / fraction
    private static int numberItem(Part part, String s, int i, char c) {
        char before = last(part).charAt(0);
        boolean commaOrPercent = part.count('T') + part.count('t') + part.count('%') > 0;
        String power = match(POWER_ITEM, s, i);
        String fraction = match(FRACTION_ITEM, s, i);
        if ("0#?".indexOf(c) >= 0) {
            boolean decimal = part.count('.') > 0;
            if (!decimal && part.count('t') > 0) {
                return 0;
            }
            part.items.add((decimal ? "D" : "W") + c);
            return 1;
        } else if (c == '.' && part.count('.') == 0) {
            part.items.add(".");
            return 1;
        } else if (c == ',' && before == 'W' && i + 1 < s.length() && "0#?".indexOf(s.charAt(i + 1)) >= 0) {
            part.items.add("T");
            return 1;
        } else if (c == ',' && (before == 'W' || before == 't')) {
            part.items.add("t");
            return 1;
        } else if (c == '%') {
            part.items.add("%");
            return 1;
        } else if (!power.isEmpty() && (before == 'W' || before == 'D') && !commaOrPercent) {
            part.items.add("E" + power.substring(1));
            part.kind = 3;
            return power.length();
        } else if (!fraction.isEmpty() && before == 'W' && !commaOrPercent) {
            StringBuilder numerator = new StringBuilder();
            while (last(part).charAt(0) == 'W') {
                numerator.insert(0, part.items.remove(part.items.size() - 1).charAt(1));
            }
            part.items.add("N" + numerator);
            part.items.add(fraction);
            part.kind = 4;
            return fraction.length();
        }
        return 0;
    }

    // Letters of the date, h m s for those in all, P parts, p half days; -1 where an item can not stand
    private static int dateItem(Part part, String s, int i, char c) {
        Matcher m = DATE_ITEM.matcher(s).region(i, s.length());
        if (m.lookingAt()) {
            String item = m.group();
            int n = item.length();
            boolean fits = m.group("Y") != null ? n == 2 || n == 4 : m.group("M") != null ? n <= 5
                : m.group("D") != null ? n <= 4 : m.group("a") != null ? n <= 4 : m.group("p") != null || n <= 2;
            String what = m.group("p") != null ? "p" + item
                : m.group("a") != null ? m.group("a").toLowerCase(Locale.ROOT) : item.toUpperCase(Locale.ROOT);
            part.items.add(what);
            return fits ? n : -1;
        }
        if (c == '.' && Character.toLowerCase(last(part).charAt(0)) == 's') {
            String zeros = match(Pattern.compile("\\.0+"), s, i);
            if (zeros.length() > 4) {
                return -1;
            }
            if (!zeros.isEmpty()) {
                part.items.add("P" + zeros.substring(1));
            }
            return zeros.length();
        }
        return 0;
    }

    int sectionOf(BigDecimal number) {
        int usable = 0;
        for (int i = 0; i < parts.size() && i < 3; i++) {
            usable += parts.get(i).kind == 6 ? 0 : 1;
        }
        int sign = number.signum();
        return usable == 0 ? 0 : usable == 1 ? 1 : sign < 0 ? 2 : usable == 3 && sign == 0 ? 3 : 1;
    }

    String look(BigDecimal number) {
        int taken = sectionOf(number);
        boolean sign = number.signum() < 0 && taken != 2;
        BigDecimal size = number.abs();
        Part part = taken == 0 ? null : parts.get(taken - 1);
        if (part == null || part.kind == 0) {
            return (sign ? "-" : "") + general(size);
        }
        switch (part.kind) {
            case 2:
            case 3:
                return places(part, size, sign);
            case 4:
                return fraction(part, size, sign);
            case 5:
                return sign ? "#" : date(part, size);
            default:
                return words(part, "");
        }
    }

    int sectionOf(String text) {
        int last = parts.size();
        return parts.get(last - 1).kind == 6 || last == 4 ? last : 0;
    }

    String look(String text) {
        return sectionOf(text) == 0 ? text : words(parts.get(parts.size() - 1), text);
    }

    private static String words(Part part, String text) {
        StringBuilder out = new StringBuilder();
        for (String item : part.items) {
            out.append(item.charAt(0) == '@' ? text : item.substring(1));
        }
        return out.toString();
    }

    private static String general(BigDecimal size) {
        if (size.signum() == 0) {
            return "0";
        }
        BigDecimal n = size.stripTrailingZeros();
        String digits = n.unscaledValue().toString();
        int p = n.precision() - n.scale();
        if (p >= -5 && p <= 21) {
            return n.toPlainString();
        }
        return digits.charAt(0) + (digits.length() > 1 ? "." + digits.substring(1) : "") + "E" + (p - 1);
    }

    /** Whole digits put in places; each place with what it gives, those left over before the first. */
    private static List<String> fill(String digits, String places, boolean thousands) {
        String all = digits.replaceFirst("^0+", "");
        List<String> out = new ArrayList<>();
        for (int k = 0; k < places.length(); k++) {
            int behind = places.length() - 1 - k;
            StringBuilder given = new StringBuilder();
            for (int pos = all.length() - 1; k == 0 && pos > behind; pos--) {
                given.append(all.charAt(all.length() - 1 - pos));
                given.append(thousands && pos % 3 == 0 ? "," : "");
            }
            char mark = places.charAt(k);
            String own = behind < all.length() ? "" + all.charAt(all.length() - 1 - behind)
                : mark == '0' ? "0" : mark == '?' ? " " : "";
            boolean comma = thousands && behind > 0 && behind % 3 == 0 && !own.isBlank();
            out.add(given + own + (comma ? "," : ""));
        }
        return out;
    }

    private static String marks(Part part, char what) {
        StringBuilder out = new StringBuilder();
        for (String item : part.items) {
            if (item.charAt(0) == what) {
                out.append(item.charAt(1));
            }
        }
        return out.toString();
    }

    private static String places(Part part, BigDecimal size, boolean sign) {
        String wholes = marks(part, 'W');
        String decimals = marks(part, 'D');
        int shift = (int) (2 * part.count('%') - 3 * part.count('t'));
        int e = 0;
        BigDecimal n = size.scaleByPowerOfTen(shift).setScale(decimals.length(), RoundingMode.HALF_UP);
        if (part.kind == 3) {
            int w = Math.max(1, wholes.length());
            int top = size.precision() - size.scale() - 1;
            e = size.signum() == 0 ? 0 : Math.floorDiv(top, w) * w;
            n = size.scaleByPowerOfTen(-e).setScale(decimals.length(), RoundingMode.HALF_UP);
            if (n.compareTo(BigDecimal.ONE.scaleByPowerOfTen(w)) >= 0) {
                e += w;
                n = size.scaleByPowerOfTen(-e).setScale(decimals.length(), RoundingMode.HALF_UP);
            }
        }
        String[] plain = (n.toPlainString() + (decimals.isEmpty() ? "." : "")).split("\\.", -1);
        List<String> filled = fill(plain[0], wholes, part.count('T') > 0);
        StringBuilder out = new StringBuilder(sign && n.signum() != 0 ? "-" : "");
        int w = 0;
        int d = 0;
        for (String item : part.items) {
            switch (item.charAt(0)) {
                case 'W':
                    out.append(filled.get(w++));
                    break;
                case '.':
                    out.append(wholes.isEmpty() ? plain[0].replaceFirst("^0+", "") : "").append('.');
                    break;
                case 'D':
                    boolean idle = plain[1].substring(d).matches("0*");
                    out.append(!idle || item.equals("D0") ? plain[1].substring(d, d + 1) : item.equals("D?") ? " " : "");
                    d++;
                    break;
                case 'E':
                    out.append('E').append(e < 0 ? "-" : item.charAt(1) == '+' ? "+" : "");
                    fill("" + Math.abs(e), item.substring(2), false).forEach(out::append);
                    break;
                case '%':
                    out.append('%');
                    break;
                case 'L':
                    out.append(item.substring(1));
                    break;
                default:
                    break;
            }
        }
        return out.toString();
    }

    private static BigDecimal rest(BigDecimal size) {
        return size.subtract(size.setScale(0, RoundingMode.DOWN)).setScale(15, RoundingMode.HALF_UP);
    }

    private static String fraction(Part part, BigDecimal size, boolean sign) {
        String wholes = marks(part, 'W');
        BigInteger whole = size.toBigInteger();
        if (wholes.isEmpty() && whole.toString().length() > 9) {
            return "#";
        }
        String under = "";
        for (String item : part.items) {
            under = item.charAt(0) == '/' ? item.substring(1) : under;
        }
        boolean given = under.matches("[1-9].*");
        long[] nd = nearest(rest(size).unscaledValue().longValueExact(), given ? Integer.parseInt(under) : 0,
            under.length());
        BigInteger n = BigInteger.valueOf(nd[0]);
        BigInteger d = BigInteger.valueOf(nd[1]);
        if (wholes.isEmpty()) {
            n = n.add(d.multiply(whole));
        } else if (n.equals(d)) {
            whole = whole.add(BigInteger.ONE);
            n = BigInteger.ZERO;
        }
        boolean blank = n.signum() == 0 && !wholes.isEmpty();
        List<String> filled = fill(whole.toString(), wholes, false);
        StringBuilder out = new StringBuilder(sign && n.signum() + whole.signum() > 0 ? "-" : "");
        int w = 0;
        for (String item : part.items) {
            char what = item.charAt(0);
            String held = item.substring(1);
            if (what == 'W') {
                out.append(filled.get(w++));
            } else if (what == 'L') {
                out.append(held);
            } else if (blank) {
                out.append(" ".repeat(what == 'N' ? held.length() : item.length()));
            } else if (what == 'N') {
                fill(n.toString(), held, false).forEach(out::append);
            } else {
                String lacking = given ? "" : held.substring(0, held.length() - d.toString().length());
                out.append('/').append(lacking.replaceAll("[^0]", "")).append(d);
                out.append(lacking.replaceAll("[^?]", "").replace('?', ' '));
            }
        }
        return out.toString();
    }

    private static long[] nearest(long rest, int given, int places) {
        BigInteger all = BigInteger.TEN.pow(15);
        BigInteger r = BigInteger.valueOf(rest);
        long[] best = null;
        BigInteger bestGap = null;
        int most = given > 0 ? given : (int) Math.pow(10, places) - 1;
        for (int d = given > 0 ? given : 1; d <= most; d++) {
            long near = r.multiply(BigInteger.valueOf(d)).divide(all).longValueExact();
            for (long n = Math.max(0, near - 1); n <= Math.min(d, near + 2); n++) {
                BigInteger gap = r.multiply(BigInteger.valueOf(d)).subtract(all.multiply(BigInteger.valueOf(n))).abs();
                boolean nearer = best == null
                    || gap.multiply(BigInteger.valueOf(best[1])).compareTo(bestGap.multiply(BigInteger.valueOf(d))) < 0;
                if (nearer) {
                    best = new long[] {n, d};
                    bestGap = gap;
                }
            }
        }
        return best;
    }

    private static String date(Part part, BigDecimal size) {
        if (size.compareTo(BigDecimal.valueOf(2958466)) >= 0) {
            return "#";
        }
        int parts = part.items.stream().filter(i -> i.charAt(0) == 'P').mapToInt(i -> i.length() - 1).max().orElse(0);
        BigDecimal seconds = rest(size).multiply(BigDecimal.valueOf(86400)).setScale(parts, RoundingMode.HALF_UP)
            .add(new BigDecimal(size.toBigInteger()).multiply(BigDecimal.valueOf(86400)));
        long all = seconds.longValue();
        long day = all / 86400;
        if (day >= 2958466) {
            return "#";
        }
        long milli = seconds.subtract(BigDecimal.valueOf(all)).movePointRight(3).longValueExact();
        LocalDate shown = day > 60 ? LocalDate.of(1900, 3, 1).plusDays(day - 61)
            : day == 60 || day == 0 ? null : LocalDate.of(1900, 1, 1).plusDays(day - 1);
        int month = shown == null ? (day == 60 ? 2 : 1) : shown.getMonthValue();
        int dayOfMonth = shown == null ? (day == 60 ? 29 : 0) : shown.getDayOfMonth();
        int year = shown == null ? 1900 : shown.getYear();
        LocalDateTime time = LocalDateTime.of(2000, 1, 1, 0, 0).plusSeconds(all % 86400);
        // The 2nd of January 2000 was a Sunday.
        LocalDate weekday = LocalDate.of(2000, 1, 1).plusDays(day);
        String monthName = LocalDate.of(2000, month, 1).getMonth().getDisplayName(TextStyle.FULL, Locale.ENGLISH);
        String dayName = weekday.getDayOfWeek().getDisplayName(TextStyle.FULL, Locale.ENGLISH);
        boolean halves = part.count('p') > 0;
        int hour = halves ? (time.getHour() % 12 == 0 ? 12 : time.getHour() % 12) : time.getHour();
        StringBuilder out = new StringBuilder();
        for (int i = 0; i < part.items.size(); i++) {
            String item = part.items.get(i);
            int n = item.length();
            switch (item.charAt(0)) {
                case 'Y':
                    out.append(("" + year).substring(4 - n));
                    break;
                case 'M':
                    out.append(n <= 2 ? two(isMinutes(part, i) ? time.getMinute() : month, n)
                        : n == 5 ? monthName.substring(0, 1) : n == 3 ? monthName.substring(0, 3) : monthName);
                    break;
                case 'D':
                    out.append(n <= 2 ? two(dayOfMonth, n) : n == 3 ? dayName.substring(0, 3) : dayName);
                    break;
                case 'H':
                    out.append(two(hour, n));
                    break;
                case 'S':
                    out.append(two(time.getSecond(), n));
                    break;
                case 'h':
                    out.append(two(all / 3600, n));
                    break;
                case 'm':
                    out.append(two(all / 60, n));
                    break;
                case 's':
                    out.append(two(all, n));
                    break;
                case 'P':
                    out.append('.').append(String.format("%03d", milli), 0, n - 1);
                    break;
                case 'p':
                    out.append((time.getHour() < 12 ? "AM" : "PM"), 0, n == 6 ? 2 : 1);
                    break;
                default:
                    out.append(item.substring(1));
                    break;
            }
        }
        return out.toString();
    }

    private static String two(long n, int width) {
        return width == 2 && n < 10 ? "0" + n : "" + n;
    }

    private static boolean isMinutes(Part part, int at) {
        char before = ' ';
        char behind = ' ';
        for (int i = 0; i < part.items.size(); i++) {
            char what = part.items.get(i).charAt(0);
            if (what != 'L' && i < at) {
                before = what;
            }
            if (what != 'L' && i > at && behind == ' ') {
                behind = what;
            }
        }
        return before == 'H' || before == 'h' || behind == 'S' || behind == 's';
    }
}
