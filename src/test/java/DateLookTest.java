/** Promises 7 and 8: looks as dates and times. */
public final class DateLookTest {
    private static final String DAY = "yyyy-mm-dd";

    public static void main(String[] args) {
        Bench b = new Bench();
        range(b);
        fifteenDigits(b);
        roundedSeconds(b);
        cutOff(b);
        firstDays(b);
        calendar(b);
        weekdays(b);
        lastDay(b);
        years(b);
        months(b);
        monthNames(b);
        days(b);
        hours(b);
        parts(b);
        halfDays(b);
        inAll(b);
        b.end();
    }

    private static void range(Bench b) {
        b.sentence("DATE: a number from 0 to below 2958466: days, with parts; if it is another one, the look is one #.");
        b.dueLook(DAY, "0", "1900-01-00");
        b.dueLook("d", "1E-350", "0");
        b.dueLook(DAY, "2958465", "9999-12-31");
        b.dueLook(DAY, "2958465.0000000000", "9999-12-31");
        b.dueLook(DAY, "6E1", "1900-02-29");
        b.dueLook(DAY, "36E3", "1998-07-24");
        b.dueLook("d", "3E6", "#");
        b.dueLook("\"x\"d", "2958466", "#");
        b.dueLook("d", "2958466.0000000001", "#");
        b.dueLook("d", "9999999", "#");
        b.dueLook("d", "10000000", "#");
        b.dueLook("d", "99999999999999999", "#");
        b.dueLook("d", "1E300", "#");
        b.dueLook("d", "1E7", "#");
        b.dueLook("\"x\"d", "-1", "#");
        b.dueLook("d", "-1E-300", "#");
        b.dueLook("d", "-0.0000001", "#");
    }

    private static void fifteenDigits(Bench b) {
        b.sentence("The rest of the day is first rounded to 15 digits, halves up, as with fractions;");
        b.dueLook("h:m:s", "0.000005787037037", "0:0:0");
        b.dueLook("h:m:s", "0.000005787037038", "0:0:1");
        b.dueLook("h:m:s", "0.0000057870370371", "0:0:0");
        b.dueLook("h:m:s", "0.0000057870370374", "0:0:0");
        b.dueLook("h:m:s", "0.0000057870370375", "0:0:1");
        b.dueLook("d h", "1.9999999999999995", "2 0");
    }

    private static void roundedSeconds(Bench b) {
        b.sentence("the seconds that it makes are rounded to as many parts as the section has of the second (at most three; halves "
            + "up), and may make a day more;");
        b.dueLook("s", "0.00015625", "14");
        b.dueLook("s", "0.000156249999999", "13");
        b.dueLook("s.0", "0.00000056", "0.0");
        b.dueLook("s.0", "0.0000006", "0.1");
        b.dueLook("s.00", "0.000000625", "0.05");
        b.dueLook("s.000", "0.000000015625", "0.001");
        b.dueLook("s.000", "0.000000005", "0.000");
        b.dueLook("ss.000", "0.00001", "00.864");
        b.dueLook("d h:mm:ss", "1.999999", "2 0:00:00");
        b.dueLook("d h:mm:ss.0", "1.999999", "1 23:59:59.9");
        b.dueLook("d h:mm:ss.00", "1.99999999", "2 0:00:00.00");
        b.dueLook("d h:mm:ss.000", "1.99999999", "1 23:59:59.999");
        b.dueLook("d h:mm:ss.000", "1.999999995", "2 0:00:00.000");
        b.dueLook("[h]:mm:ss", "0.999999", "24:00:00");
        b.dueLook(DAY, "59.9999999", "1900-02-29");
        b.dueLook(DAY, "60.9999999", "1900-03-01");
        b.dueLook("dddd", "0.9999999", "Sunday");
    }

    private static void cutOff(Bench b) {
        b.sentence("below them all is cut off.");
        b.dueLook("h", "0.9999", "23");
        b.dueLook("h:m", "0.99998", "23:59");
        b.dueLook("d", "1.99998", "1");
        b.dueLook("[h]", "0.99998", "23");
        b.dueLook("[m]", "0.99998", "1439");
        b.dueLook("[s]", "0.99998", "86398");
    }

    private static void firstDays(Bench b) {
        b.sentence("DAYS: 0 is day 0 of January 1900; 1 the first one; 60 the 29th of February 1900;");
        b.dueLook(DAY, "0.5", "1900-01-00");
        b.dueLook(DAY, "1", "1900-01-01");
        b.dueLook(DAY, "31", "1900-01-31");
        b.dueLook(DAY, "32", "1900-02-01");
        b.dueLook(DAY, "59", "1900-02-28");
        b.dueLook(DAY, "60", "1900-02-29");
    }

    private static void calendar(Bench b) {
        b.sentence("from 61 on, the 1st of March 1900, by the calendar.");
        b.dueLook(DAY, "61", "1900-03-01");
        b.dueLook(DAY, "366", "1900-12-31");
        b.dueLook(DAY, "367", "1901-01-01");
        b.dueLook(DAY, "1520", "1904-02-28");
        b.dueLook(DAY, "1521", "1904-02-29");
        b.dueLook(DAY, "1522", "1904-03-01");
        b.dueLook(DAY, "36585", "2000-02-29");
        b.dueLook(DAY, "36586", "2000-03-01");
        b.dueLook(DAY, "73109", "2100-02-28");
        b.dueLook(DAY, "73110", "2100-03-01");
        b.dueLook(DAY, "182682", "2400-02-29");
        b.dueLook(DAY, "182683", "2400-03-01");
        b.dueLook(DAY, "2958465", "9999-12-31");
        everyDay(b);
    }

    /** Every day that the calendar has, against java.time. */
    private static void everyDay(Bench b) {
        java.time.LocalDate date = java.time.LocalDate.of(1900, 3, 1);
        int wrong = 0;
        for (int day = 61; day < 2958466; day++) {
            if (day % 50 == 11) {
                b.anew();
                b.code("yyyymmdd");
            }
            b.dress.number(false, 0, day, 0);
            boolean same = b.dress.at(0) == '0' + date.getYear() / 1000 && b.dress.at(3) == '0' + date.getYear() % 10
                && b.dress.at(4) == '0' + date.getMonthValue() / 10 && b.dress.at(5) == '0' + date.getMonthValue() % 10
                && b.dress.at(6) == '0' + date.getDayOfMonth() / 10 && b.dress.at(7) == '0' + date.getDayOfMonth() % 10;
            wrong += same ? 0 : 1;
            date = date.plusDays(1);
        }
        b.due("days that are not the calendar's", wrong, 0);
    }

    private static void weekdays(Bench b) {
        b.sentence("Days of the week: day 1 is a Sunday, and so on.");
        String[] names = {"Saturday", "Sunday", "Monday", "Tuesday", "Wednesday", "Thursday", "Friday", "Saturday", "Sunday"};
        for (int day = 0; day < names.length; day++) {
            b.dueLook("dddd", "" + day, names[day]);
        }
        b.dueLook("dddd", "60", "Wednesday");
        b.dueLook("dddd", "61", "Thursday");
        b.dueLook("dddd", "45000", "Wednesday");
        b.dueLook("dddd", "2958465", "Friday");
    }

    private static void lastDay(Bench b) {
        b.sentence("(With the last day and a rounding to the next one it is # likewise.)");
        b.dueLook("\"x\"d", "2958465.999999", "#");
        b.dueLook("h", "2958465.999999", "#");
        b.dueLook("d", "2958465.99999", "31");
        b.dueLook("d s.0", "2958465.999999", "31 59.9");
        b.dueLook("d s.0", "2958465.9999995", "#");
        b.dueLook("s.000", "2958465.999999999", "#");
        b.dueLook("0;\"x\"d", "-2958465.999999", "#");
    }

    private static void years(Bench b) {
        b.sentence("YY the year's last two digits, YYYY all;");
        b.dueLook("yy yyyy", "0", "00 1900");
        b.dueLook("yy yyyy", "36526", "00 2000");
        b.dueLook("yy yyyy", "38353", "05 2005");
        b.dueLook("yy yyyy", "2958465", "99 9999");
    }

    private static void months(Bench b) {
        b.sentence("M, MM the month (MM with two digits, as all of two letters);");
        b.dueLook("m mm", "1", "1 01");
        b.dueLook("m mm", "274", "9 09");
        b.dueLook("m mm", "275", "10 10");
        b.dueLook("m mm", "366", "12 12");
        b.dueLook("h hh", "0.4", "9 09");
        b.dueLook("h hh", "0.42", "10 10");
        b.dueLook("h:m", "0.00625", "0:9");
        b.dueLook("h:mm", "0.00625", "0:09");
        b.dueLook("s ss", "0.0001", "9 09");
        b.dueLook("s ss", "0.00012", "10 10");
        b.dueLook("hh am/pm", "0.05", "01 AM");
    }

    private static void monthNames(Bench b) {
        b.sentence("MMM Jan Feb Mar Apr May Jun Jul Aug Sep Oct Nov Dec; MMMM January February March April May June July August "
            + "September October November December; MMMMM the first letter;");
        String[] names = {"January", "February", "March", "April", "May", "June", "July", "August", "September", "October",
            "November", "December"};
        int[] firsts = {1, 32, 61, 92, 122, 153, 183, 214, 245, 275, 306, 336};
        for (int i = 0; i < 12; i++) {
            String looks = names[i].substring(0, 3) + " " + names[i] + " " + names[i].charAt(0);
            b.dueLook("mmm mmmm mmmmm", "" + firsts[i], looks);
        }
        b.dueLook("mmm mmmm mmmmm", "0", "Jan January J");
    }

    private static void days(Bench b) {
        b.sentence("D, DD the day; DDD Sun Mon Tue Wed Thu Fri Sat; DDDD Sunday Monday Tuesday Wednesday Thursday Friday Saturday;");
        b.dueLook("d dd", "0", "0 00");
        b.dueLook("d dd", "9", "9 09");
        b.dueLook("d dd", "10", "10 10");
        b.dueLook("d dd", "31", "31 31");
        String[] names = {"Sunday", "Monday", "Tuesday", "Wednesday", "Thursday", "Friday", "Saturday"};
        for (int i = 0; i < 7; i++) {
            b.dueLook("ddd dddd", "" + (i + 1), names[i].substring(0, 3) + " " + names[i]);
        }
    }

    private static void hours(Bench b) {
        b.sentence("H hours (0 .. 23, or, with AM/PM or A/P in the section, 12 1 .. 11), minutes, seconds;");
        for (int hour = 0; hour < 24; hour++) {
            String rest = String.format("%.10f", (hour * 3600 + 61) / 86400.0);
            int half = hour % 12 == 0 ? 12 : hour % 12;
            b.dueLook("h:m:s", rest, hour + ":1:1");
            b.dueLook("h:m:s am/pm", rest, half + ":1:1 " + (hour < 12 ? "AM" : "PM"));
            b.dueLook("a/p h:m:s", rest, (hour < 12 ? "A " : "P ") + half + ":1:1");
        }
        b.dueLook("h;h a/p", "0.75", "18");
        b.dueLook("h:m:s", "0.0416550925925926", "0:59:59");
        b.dueLook("h:m:s", "0.999988425925926", "23:59:59");
    }

    private static void parts(Bench b) {
        b.sentence("parts: a point and digits;");
        b.dueLook("s.0", "0", "0.0");
        b.dueLook("s.00", "0.00001", "0.86");
        b.dueLook("s.000", "0.00000005", "0.004");
        b.dueLook("ss.000", "0.0000001", "00.009");
        b.dueLook("[s].000", "1.00001", "86400.864");
    }

    private static void halfDays(Bench b) {
        b.sentence("AM/PM: AM or PM, A/P: A or P.");
        b.dueLook("am/pm a/p", "0", "AM A");
        b.dueLook("am/pm a/p", "0.49999", "AM A");
        b.dueLook("am/pm a/p", "0.499999", "PM P");
        b.dueLook("AM/PM A/P", "0.5", "PM P");
        b.dueLook("AM/PM A/P", "0.99999", "PM P");
    }

    private static void inAll(Bench b) {
        b.sentence("[H] all hours since day 0, [M] minutes, [S] seconds (HH and so on: two digits at least).");
        b.dueLook("[h] [hh]", "0", "0 00");
        b.dueLook("[h] [hh]", "0.25", "6 06");
        b.dueLook("[m] [mm]", "0.003", "4 04");
        b.dueLook("[s] [ss]", "0.00003", "3 03");
        b.dueLook("[hh] [mm] [ss]", "1.5", "36 2160 129600");
        b.dueLook("[h] am/pm", "0.75", "18 PM");
        b.dueLook("[h]", "2958465.99", "71003183");
        b.dueLook("[m]", "2958465", "4260189600");
        b.dueLook("[s]", "2958465", "255611376000");
        b.dueLook("d;[h]", "-1.5", "36");
    }
}
