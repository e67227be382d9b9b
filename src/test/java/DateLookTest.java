/** Promises 7 and 8: looks as dates and times. */
public final class DateLookTest {
    public static void main(String[] args) {
        Bench b = new Bench();
        days(b);
        names(b);
        times(b);
        minutes(b);
        inAll(b);
        edges(b);
        b.end();
    }

    private static void days(Bench b) {
        String c = "yyyy-mm-dd";
        b.dueLook(c, "0", "1900-01-00");
        b.dueLook(c, "1", "1900-01-01");
        b.dueLook(c, "31", "1900-01-31");
        b.dueLook(c, "32", "1900-02-01");
        b.dueLook(c, "59", "1900-02-28");
        b.dueLook(c, "60", "1900-02-29");
        b.dueLook(c, "61", "1900-03-01");
        b.dueLook(c, "366", "1900-12-31");
        b.dueLook(c, "36585", "2000-02-29");
        b.dueLook(c, "36586", "2000-03-01");
        b.dueLook(c, "182682", "2400-02-29");
        b.dueLook(c, "182683", "2400-03-01");
        b.dueLook(c, "73110", "2100-03-01");
        b.dueLook(c, "2958465", "9999-12-31");
        b.dueLook(c, "2958.465E3", "9999-12-31");
        b.dueLook("yy/m/d", "36586", "00/3/1");
    }

    private static void names(Bench b) {
        b.dueLook("ddd", "0", "Sat");
        b.dueLook("dddd", "1", "Sunday");
        b.dueLook("ddd dddd", "45000", "Wed Wednesday");
        b.dueLook("mmm mmmm mmmmm", "0", "Jan January J");
        b.dueLook("mmm mmmm mmmmm", "245", "Sep September S");
        b.dueLook("MMM, DDD.", "60", "Feb, Wed.");
    }

    private static void times(Bench b) {
        b.dueLook("h:m:s", "0.5", "12:0:0");
        b.dueLook("hh:mm:ss", "0.0423611111111111", "01:01:00");
        b.dueLook("h AM/PM", "0", "12 AM");
        b.dueLook("hh A/P", "0.5", "12 P");
        b.dueLook("h a/p", "0.99", "11 P");
        b.dueLook("am/pm h", "0.55", "PM 1");
        b.dueLook("s.0", "0.00000056", "0.0");
        b.dueLook("s.0", "0.0000006", "0.1");
        b.dueLook("ss.000", "0.00001", "00.864");
        b.dueLook("s.0 s.000", "0.00001", "0.8 0.864");
        b.dueLook("s.", "0.00001", "1.");
        b.dueLook("s", "0.00015625", "14");
        b.dueLook("s", "0.000156249999999", "13");
    }

    private static void minutes(Bench b) {
        String noon = "2.52152777777778";
        b.dueLook("h m", noon, "12 31");
        b.dueLook("m s", noon, "31 0");
        b.dueLook("m", noon, "1");
        b.dueLook("h d m", noon, "12 2 1");
        b.dueLook("h \"d\" mm", noon, "12 d 31");
        b.dueLook("h m m", noon, "12 31 1");
        b.dueLook("h mmm", noon, "12 Jan");
        b.dueLook("[h]m", noon, "6031");
        b.dueLook("m[s]", noon, "31217860");
        b.dueLook("h a/p m", noon, "12 P 1");
        b.dueLook("s.0 m", noon, "0.0 1");
        b.dueLook("m d s", noon, "1 2 0");
    }

    private static void inAll(Bench b) {
        b.dueLook("[h] [hh]", "0.25", "6 06");
        b.dueLook("[m] [mm]", "0.003", "4 04");
        b.dueLook("[s] [ss]", "0.00003", "3 03");
        b.dueLook("[h]", "2958465.99", "71003183");
        b.dueLook("[s]", "2958465", "255611376000");
        b.dueLook("[h]:mm:ss", "0.999999", "24:00:00");
    }

    private static void edges(Bench b) {
        b.dueLook("\"x\"d", "-1", "#");
        b.dueLook("d", "-1E-300", "#");
        b.dueLook("d", "2958466", "#");
        b.dueLook("d", "1E300", "#");
        b.dueLook("\"x\"d", "2958465.999999", "#");
        b.dueLook("s.0", "2958465.999999", "59.9");
        b.dueLook("d", "2958465.99999", "31");
        b.dueLook("d;d", "-2", "2");
        b.dueLook("d;\"-\"d", "-2958466", "#");
        b.dueLook("d h", "1.9999999999999995", "2 0");
        b.dueLook("h:m:s", "0.000005787037037", "0:0:0");
        b.dueLook("h:m:s", "0.000005787037038", "0:0:1");
    }
}
