/** Promises 7 to 15: easter, date, office, held, own, fast, wax, next, unlike. */
public final class YearTest {
    private static final Check CHECK = new Check();

    public static void main(String[] args) {
        easters();
        dates();
        ownDays();
        givingWay();
        octaves();
        fasts();
        wax();
        nextFeast();
        unlikePlaces();
        CHECK.finish();
    }

    private static void easters() {
        SaintsRoad x = new SaintsRoad();
        int[][] known = {{1066, 4, 16}, {1492, 4, 22}, {1582, 4, 15}, {325, 4, 18}, {1, 3, 27}, {2000, 4, 17},
            {2, 4, 16}, {1204, 4, 25}, {1421, 3, 23}};
        for (int[] row : known) {
            int day = x.easter(row[0]);
            CHECK.due("month of EASTER " + row[0], x.date(row[0], day, 0), row[1]);
            CHECK.due("date of EASTER " + row[0], x.date(row[0], day, 1), row[2]);
        }
        for (int year = 1; year <= 2000; year++) {
            CHECK.due("EASTER " + year + " is a Sunday", x.date(year, x.easter(year), 2), 0);
        }
        for (int year : new int[] {0, 2001, -1, Integer.MAX_VALUE, Integer.MIN_VALUE}) {
            CHECK.due("easter(" + year + ")", x.easter(year), -2);
        }
    }

    private static void dates() {
        SaintsRoad x = new SaintsRoad();
        int weekday = 6;
        for (int year = 1; year <= 2000; year++) {
            int last = year % 4 == 0 ? 365 : 364;
            CHECK.due("first weekday of " + year, x.date(year, 0, 2), weekday);
            CHECK.due("last date of " + year, x.date(year, last, 1), 31);
            CHECK.due("behind the last of " + year, x.date(year, last + 1, 1), -1);
            weekday = (weekday + last + 1) % 7;
        }
        int[] ends = {31, 29, 31, 30, 31, 30, 31, 31, 30, 31, 30, 31};
        int day = 0;
        for (int month = 1; month <= 12; month++) {
            for (int date = 1; date <= ends[month - 1]; date++) {
                CHECK.due("month of day " + day, x.date(4, day, 0), month);
                CHECK.due("date of day " + day, x.date(4, day, 1), date);
                day++;
            }
        }
        CHECK.due("the first of March", x.date(5, 59, 0), 3);
        CHECK.due("no day -1", x.date(5, -1, 0), -1);
        CHECK.due("no YEAR 0", x.date(0, 5, 0), -1);
        CHECK.due("no YEAR 2001", x.date(2001, 5, 0), -1);
        CHECK.due("no what 3", x.date(5, 5, 3), -1);
        CHECK.due("no what -1", x.date(5, 5, -1), -1);
    }

    private static void ownDays() {
        SaintsRoad x = Check.with("fixed 2 29 rank 1 leap; moved -90 rank 1 early; sunday 5 2 rank 1 fifth;"
            + " fixed 12 31 rank 1 last from 5 till 7; moved 90 rank 1 far; moved -0 rank 1 easter;"
            + " sunday 1 5 rank 1 may;");
        for (int year = 1; year <= 2000; year++) {
            int easter = x.easter(year);
            int leap = year % 4 == 0 ? 1 : 0;
            CHECK.due("29th " + year, x.own(0, year, 0), leap == 1 ? 59 : -10);
            CHECK.due("early " + year, x.own(0, year, 1), easter >= 90 ? easter - 90 : -10);
            boolean five = leap == 1 && x.date(year, 31, 2) == 0;
            CHECK.due("fifth " + year, x.own(0, year, 2), five ? 59 : -10);
            CHECK.due("last " + year, x.own(0, year, 3), year >= 5 && year <= 7 ? 364 : -10);
            CHECK.due("far " + year, x.own(0, year, 4), easter + 90);
            CHECK.due("easter " + year, x.own(0, year, 5), easter);
            int may = x.own(0, year, 6);
            CHECK.that("may " + year, x.date(year, may, 0) == 5 && x.date(year, may, 1) <= 7
                && x.date(year, may, 2) == 0);
        }
        SaintsRoad y = Check.with("fixed 1 1 rank 1 a;");
        int[][] wrong = {{-1, 5, 0}, {4, 5, 0}, {0, 0, 0}, {0, 2001, 0}, {0, 5, 1}, {0, 5, -1}, {1, 5, 0}};
        for (int[] w : wrong) {
            CHECK.due("own " + w[0] + " " + w[1] + " " + w[2], y.own(w[0], w[1], w[2]), -2);
            CHECK.due("held " + w[0] + " " + w[1] + " " + w[2], y.held(w[0], w[1], w[2]), -2);
        }
    }

    private static void givingWay() {
        String five = "fixed 3 1 rank 3 a; fixed 3 1 rank 2 b; fixed 3 1 rank 2 c; fixed 3 2 rank 2 d;"
            + " fixed 3 1 rank 4 e;";
        SaintsRoad x = Check.with(five);
        heldDays("without yield", x, 5, -1, 59, -1, 60, -1);
        x = Check.with(five + "yield 3 30;");
        heldDays("yield 3 30", x, 5, 62, 59, 60, 61, -1);
        x = Check.with(five + "yield 3 2;");
        heldDays("yield 3 2", x, 5, -1, 59, 60, 61, -1);
        x = Check.with(five + "yield 3 3;");
        heldDays("yield 3 3", x, 5, 62, 59, 60, 61, -1);
        x = Check.with(five + "yield 2 30;");
        heldDays("yield 2 30", x, 5, -1, 59, 60, 61, -1);
        x = Check.with(five + "yield 8 0;");
        heldDays("yield 8 0", x, 5, -1, 59, -1, 60, -1);
        x = Check.with("fixed 12 31 rank 1 a; fixed 12 31 rank 2 b; fixed 12 30 rank 1 c; fixed 12 30 rank 1 d;"
            + " yield 8 30;");
        heldDays("beyond the YEAR", x, 5, 364, -1, 363, -1);
        heldDays("beyond a long YEAR", x, 4, 365, -1, 364, -1);
        CHECK.due("none comes over", x.office(0, 6, 0), -10);
        x = Check.with("fixed 1 1 rank 5 low; fixed 1 1 rank 1 a; fixed 1 2 rank 5 b; yield 5 9;");
        heldDays("of one R the one told first", x, 5, 1, 0, 2);
        x = Check.with("fixed 1 2 rank 5 b; fixed 1 1 rank 5 low; fixed 1 1 rank 1 a; yield 5 9;");
        heldDays("told first, though the other was moved on", x, 5, 1, 2, 0);
        x = Check.with("fixed 2 29 rank 1 a; fixed 1 1 rank 1 b till 3;");
        heldDays("not IN the YEAR", x, 5, -10, -10);
        CHECK.due("office(-1)", x.office(-1, 5, 5), -2);
        CHECK.due("office(4)", x.office(4, 5, 5), -2);
        CHECK.due("office YEAR 0", x.office(0, 0, 5), -2);
        CHECK.due("office YEAR 2001", x.office(0, 2001, 5), -2);
        CHECK.due("office day -1", x.office(0, 5, -1), -2);
        CHECK.due("office day 365", x.office(0, 5, 365), -2);
        CHECK.due("office day 366", x.office(0, 4, 366), -2);
        CHECK.due("office day 365 of a long YEAR", x.office(0, 4, 365), -10);
    }

    private static void heldDays(String what, SaintsRoad x, int year, int... days) {
        for (int f = 0; f < days.length; f++) {
            CHECK.due(what + ": held " + f, x.held(0, year, f), days[f]);
            if (days[f] >= 0) {
                CHECK.due(what + ": office of its day", x.office(0, year, days[f]), f);
            }
        }
    }

    private static void octaves() {
        SaintsRoad x = Check.with("fixed 3 1 rank 1 a octave; fixed 3 4 rank 2 plain; fixed 3 6 rank 3 b octave;"
            + " fixed 3 6 rank 1 above; fixed 12 28 rank 1 late octave; fixed 4 1 rank 8 c octave;"
            + " fixed 4 3 rank 1 d octave;");
        int[] march = {0, -20, -20, 1, -20, 3, -20, -20};
        for (int i = 0; i < march.length; i++) {
            CHECK.due("day " + (59 + i), x.office(0, 5, 59 + i), march[i]);
        }
        CHECK.that("behind the octave", x.office(0, 5, 67) == -10 || x.office(0, 5, 67) == -11);
        CHECK.due("c", x.office(0, 5, 91), -25);
        CHECK.due("the latest, not the highest", x.office(0, 5, 93), 6 == x.office(0, 5, 92) ? -26 : 0);
        CHECK.due("the eighth day", x.office(0, 5, 99), -26);
        CHECK.that("the ninth day", x.office(0, 5, 100) <= -10 && x.office(0, 5, 100) >= -11);
        CHECK.due("the last day", x.office(0, 5, 364), -24);
        CHECK.that("not in the next YEAR", x.office(0, 6, 0) <= -10 && x.office(0, 6, 0) >= -11);
        CHECK.due("a Sunday in an octave", x.office(0, 5, sundayIn(x, 5, 93, 99)), -26);
    }

    private static int sundayIn(SaintsRoad x, int year, int from, int to) {
        for (int day = from; day <= to; day++) {
            if (x.date(year, day, 2) == 0) {
                return day;
            }
        }
        throw new IllegalStateException("no Sunday");
    }

    private static void fasts() {
        SaintsRoad x = Check.with("lent 40;");
        int easter = x.easter(1066);
        for (int day = 0; day < 365; day++) {
            boolean fast = day >= easter - 40 && day < easter && x.date(1066, day, 2) != 0;
            CHECK.due("lent " + day, x.fast(0, 1066, day), fast ? 1 : 0);
        }
        x = Check.with("lent 90;");
        for (int year = 1; year <= 40; year++) {
            CHECK.due("down to the first of " + year, x.fast(0, year, 0),
                x.easter(year) <= 90 && x.date(year, 0, 2) != 0 ? 1 : 0);
        }
        // In YEAR 5 the first of January is a Thursday: the 4th a Sunday, the 5th a Monday.
        x = Check.with("fixed 1 5 rank 1 monday vigil; fixed 1 8 rank 1 thursday vigil;"
            + " fixed 1 8 rank 2 lost vigil; fixed 1 1 rank 1 first vigil; fixed 12 31 rank 1 z;");
        CHECK.due("the weekday", x.date(5, 3, 2), 0);
        int[] january = {0, 0, 1, 0, 0, 0, 1, 0};
        for (int day = 0; day < january.length; day++) {
            CHECK.due("vigil " + day, x.fast(0, 5, day), january[day]);
        }
        CHECK.due("none ahead of the YEAR", x.fast(0, 4, 365), 0);
        // YEAR 1066 begins on a Sunday: the vigil of its second day would be ahead of the YEAR.
        x = Check.with("fixed 1 2 rank 1 a vigil; fixed 1 8 rank 1 b vigil;");
        CHECK.due("a Sunday", x.date(1066, 0, 2), 0);
        CHECK.due("a Sunday is no FAST", x.fast(0, 1066, 0), 0);
        CHECK.due("ahead of the YEAR", x.fast(0, 1065, 364), 0);
        CHECK.due("ahead of a Sunday", x.fast(0, 1066, 6), 1);
        x = Check.with("fixed 1 8 rank 2 a vigil; fixed 1 8 rank 1 b; yield 2 2;");
        CHECK.due("moved on: not the day ahead of its own", x.fast(0, 5, 6), 0);
        CHECK.due("moved on: the day ahead of its new one", x.fast(0, 5, 7), 1);
        CHECK.due("fast of no PLACE", x.fast(4, 5, 5), -2);
        CHECK.due("fast of no YEAR", x.fast(0, 0, 5), -2);
        CHECK.due("fast of no day", x.fast(0, 5, 365), -2);
        CHECK.due("fast of day -1", x.fast(0, 5, -1), -2);
    }

    private static void wax() {
        SaintsRoad x = Check.with("fixed 3 1 rank 1 a octave; fixed 3 3 rank 2 b; fixed 3 5 rank 8 c; wax 1 103;"
            + " wax 2 7; fixed 12 31 rank 3 e; wax 3 9999;");
        int[] march = {103, 25, 7, 25, 0, 25, 25, 25, 0};
        int sum = 0;
        for (int i = 0; i < march.length; i++) {
            sum += march[i];
            CHECK.due("wax of " + (59 + i), x.wax(0, 5, 59 + i, 59 + i), march[i]);
            CHECK.due("wax to " + (59 + i), x.wax(0, 5, 59, 59 + i), sum);
        }
        CHECK.due("wax of a YEAR", x.wax(0, 5, 0, 364), sum + 9999);
        CHECK.due("wax of a long YEAR", x.wax(0, 4, 365, 365), 9999);
        CHECK.due("from above to", x.wax(0, 5, 6, 5), -2);
        CHECK.due("from -1", x.wax(0, 5, -1, 5), -2);
        CHECK.due("to 365", x.wax(0, 5, 0, 365), -2);
        CHECK.due("PLACE 4", x.wax(4, 5, 0, 5), -2);
        CHECK.due("YEAR 0", x.wax(0, 0, 0, 5), -2);
    }

    private static void nextFeast() {
        SaintsRoad x = Check.with("fixed 3 1 rank 2 a; fixed 4 1 rank 1 b; fixed 5 1 rank 8 c from 40;"
            + " fixed 4 1 rank 8 lost;");
        CHECK.due("that day itself", x.next(0, 5, 59, 2), 5059);
        CHECK.due("the day behind", x.next(0, 5, 60, 2), 5090);
        CHECK.due("of a higher R", x.next(0, 5, 0, 1), 5090);
        CHECK.due("in the next YEAR", x.next(0, 5, 91, 8), 6059);
        CHECK.due("none behind 2000", x.next(0, 2000, 200, 8), -1);
        CHECK.due("in 2000", x.next(0, 1999, 200, 8), 2000060);
        x = Check.with("fixed 5 1 rank 8 c from 40;");
        CHECK.due("30 YEARS", x.next(0, 11, 364, 8), 40121);
        CHECK.due("31 YEARS", x.next(0, 10, 0, 8), -1);
        CHECK.due("R above r", x.next(0, 40, 0, 7), -1);
        CHECK.due("r 0", x.next(0, 40, 0, 0), -2);
        CHECK.due("r 9", x.next(0, 40, 0, 9), -2);
        CHECK.due("PLACE -1", x.next(-1, 40, 0, 8), -2);
        CHECK.due("YEAR 2001", x.next(0, 2001, 0, 8), -2);
        CHECK.due("day 365", x.next(0, 41, 365, 8), -2);
        CHECK.due("day -1", x.next(0, 41, -1, 8), -2);
    }

    private static void unlikePlaces() {
        SaintsRoad x = Check.with("fixed 3 1 rank 1 a octave; fixed 5 1 rank 1 b;");
        CHECK.due("two empty ones", x.unlike(1, 2, 5), 0);
        CHECK.due("one empty", x.unlike(0, 1, 5), 9);
        CHECK.due("the other way", x.unlike(1, 0, 5), 9);
        Check.tell(x, 1, "fixed 5 1 rank 3 b; fixed 3 1 rank 2 a octave;");
        CHECK.due("of other numbers and ranks", x.unlike(0, 1, 5), 0);
        Check.tell(x, 1, "fixed 5 1 rank 3 b; fixed 3 2 rank 2 a octave;");
        CHECK.due("a day later", x.unlike(0, 1, 5), 3);
        Check.tell(x, 1, "fixed 5 1 rank 3 c; fixed 3 1 rank 2 d octave;");
        CHECK.due("of other names", x.unlike(0, 1, 5), 9);
        CHECK.due("itself", x.unlike(0, 0, 5), 0);
        CHECK.due("PLACE 4", x.unlike(0, 4, 5), -2);
        CHECK.due("PLACE -1", x.unlike(-1, 0, 5), -2);
        CHECK.due("YEAR 0", x.unlike(0, 1, 0), -2);
        CHECK.due("YEAR 2001", x.unlike(0, 1, 2001), -2);
    }
}
