import java.util.Calendar;
import java.util.Date;
import java.util.GregorianCalendar;
import java.util.TimeZone;

/** Term I: YEARS, days, EASTER and OWN days; promises 7, 8 and 11: easter, date, own. */
public final class YearTest {
    private static final Check CHECK = new Check();

    public static void main(String[] args) {
        yearsThereAre();
        leapYears();
        daysFromNought();
        firstWeekday();
        easters();
        easterBehindTheMoon();
        easterRefused();
        datesTold();
        dateRefused();
        feastsNumbered();
        fromAndTill();
        fixedDays();
        movedDays();
        sundays();
        ownRefused();
        CHECK.finish();
    }

    /** The library's own reckoning, without the reform of 1582. */
    private static GregorianCalendar julian(int year, int month, int date) {
        GregorianCalendar c = new GregorianCalendar(TimeZone.getTimeZone("UTC"));
        c.setGregorianChange(new Date(Long.MAX_VALUE));
        c.clear();
        c.set(year, month - 1, date);
        return c;
    }

    private static int dayOf(int year, int month, int date) {
        return julian(year, month, date).get(Calendar.DAY_OF_YEAR) - 1;
    }

    private static int weekdayOf(int year, int month, int date) {
        return julian(year, month, date).get(Calendar.DAY_OF_WEEK) - Calendar.SUNDAY;
    }

    private static void yearsThereAre() {
        CHECK.says("YEARS 1 .. 2000");
        SaintsRoad x = Check.with("fixed 1 1 rank 1 a;");
        CHECK.bounds("easter", 1, 2000, -2, x::easter);
        CHECK.bounds("date", 1, 2000, -1, year -> x.date(year, 0, 0));
        CHECK.bounds("office", 1, 2000, -2, year -> x.office(0, year, 0));
        CHECK.bounds("held", 1, 2000, -2, year -> x.held(0, year, 0));
        CHECK.bounds("own", 1, 2000, -2, year -> x.own(0, year, 0));
        CHECK.bounds("fast", 1, 2000, -2, year -> x.fast(0, year, 0));
        CHECK.bounds("wax", 1, 2000, -2, year -> x.wax(0, year, 0, 0));
        CHECK.bounds("next", 1, 2000, -2, year -> x.next(0, year, 0, 8));
        CHECK.bounds("unlike", 1, 2000, -2, year -> x.unlike(0, 1, year));
        CHECK.bounds("rota", 1, 2000, -2, year -> x.rota(0, year, year, 8, 1));
    }

    private static void leapYears() {
        CHECK.says("(each fourth one, 4, 8, .., has a 29th of February)");
        for (int year : new int[] {4, 8, 100, 200, 400, 1000, 1500, 1700, 1800, 1900, 1996, 2000}) {
            SaintsRoad x = new SaintsRoad();
            CHECK.due("month of the 29th, " + year, x.date(year, 59, 0), 2);
            CHECK.due("date of the 29th, " + year, x.date(year, 59, 1), 29);
            CHECK.due("the day behind it, " + year, x.date(year, 60, 1), 1);
            CHECK.due("the last day, " + year, x.date(year, 365, 1), 31);
            CHECK.due("none behind it, " + year, x.date(year, 366, 1), -1);
        }
        for (int year : new int[] {1, 2, 3, 5, 6, 7, 9, 99, 101, 1001, 1998, 1999}) {
            SaintsRoad x = new SaintsRoad();
            CHECK.due("month of day 58, " + year, x.date(year, 58, 0), 2);
            CHECK.due("month of day 59, " + year, x.date(year, 59, 0), 3);
            CHECK.due("the last day, " + year, x.date(year, 364, 1), 31);
            CHECK.due("none behind it, " + year, x.date(year, 365, 1), -1);
        }
    }

    private static void daysFromNought() {
        CHECK.says("DAYS of a YEAR are numbered from 0 (the first of January) on");
        SaintsRoad x = new SaintsRoad();
        for (int year : new int[] {1, 4, 1066, 2000}) {
            CHECK.due("month of day 0, " + year, x.date(year, 0, 0), 1);
            CHECK.due("date of day 0, " + year, x.date(year, 0, 1), 1);
            CHECK.due("no day -1, " + year, x.date(year, -1, 0), -1);
        }
    }

    private static void firstWeekday() {
        CHECK.says("the first one of YEAR 1 is a Saturday");
        SaintsRoad x = new SaintsRoad();
        CHECK.due("day 0", x.date(1, 0, 2), 6);
        CHECK.due("day 1", x.date(1, 1, 2), 0);
        CHECK.due("the last one", x.date(1, 364, 2), 6);
        CHECK.due("day 0 of YEAR 2", x.date(2, 0, 2), 0);
        CHECK.due("the last one of YEAR 2000", x.date(2000, 365, 2), weekdayOf(2000, 12, 31));
    }

    private static void easters() {
        CHECK.says("with d the rest by 30 of 19 times (the rest of the YEAR by 19) and 15: the first Sunday behind");
        int[][] known = {{1066, 4, 16}, {1492, 4, 22}, {1582, 4, 15}, {325, 4, 18}, {1, 3, 27}, {2000, 4, 17},
            {2, 4, 16}, {1204, 4, 25}, {1421, 3, 23}};
        SaintsRoad x = new SaintsRoad();
        for (int[] row : known) {
            CHECK.due("EASTER " + row[0], x.easter(row[0]), dayOf(row[0], row[1], row[2]));
        }
        int least = 400;
        int most = 0;
        for (int year = 1; year <= 2000; year++) {
            x = year % 500 == 1 ? new SaintsRoad() : x;
            int d = (19 * (year % 19) + 15) % 30;
            int e = (2 * (year % 4) + 4 * (year % 7) - d + 34) % 7;
            int sum = d + e + 114;
            int easter = x.easter(year);
            CHECK.due("EASTER " + year, easter, dayOf(year, sum / 31, sum % 31 + 1));
            int march = easter - dayOf(year, 3, 1) + 1;
            least = Math.min(least, march);
            most = Math.max(most, march);
        }
        CHECK.due("the earliest of all", least, 22);
        CHECK.due("the latest of all", most, 31 + 25);
    }

    private static void easterBehindTheMoon() {
        CHECK.says("behind the d-th day after the 21st of March (d 0: behind the 21st itself)");
        int sundayMoons = 0;
        int noughts = 0;
        for (int year = 1; year <= 2000; year++) {
            int d = (19 * (year % 19) + 15) % 30;
            if (weekdayOf(year, 3, 21 + d) == 0) {
                sundayMoons++;
                noughts += d == 0 ? 1 : 0;
                CHECK.due("that day is a Sunday, " + year, new SaintsRoad().easter(year), dayOf(year, 3, 21 + d + 7));
            } else if (d == 0) {
                int wait = 7 - weekdayOf(year, 3, 21);
                CHECK.due("d is 0, " + year, new SaintsRoad().easter(year), dayOf(year, 3, 21 + wait));
            } else if (weekdayOf(year, 3, 21 + d) == 6) {
                CHECK.due("that day is a Saturday, " + year, new SaintsRoad().easter(year), dayOf(year, 3, 22 + d));
            }
        }
        CHECK.that("there are YEARS in which that day is a Sunday", sundayMoons > 0 && noughts > 0);
    }

    private static void easterRefused() {
        CHECK.says("The day of EASTER; RANGE: no such YEAR");
        CHECK.bounds("easter", 1, 2000, -2, year -> new SaintsRoad().easter(year));
    }

    private static void datesTold() {
        CHECK.says("Of a day, what 0: month 1 .. 12, 1: its date, 2: day of the week (0 Sunday .. 6 Saturday)");
        for (int year : new int[] {1, 2, 3, 4, 100, 1582, 1752, 1900, 1999, 2000}) {
            SaintsRoad x = new SaintsRoad();
            GregorianCalendar c = julian(year, 1, 1);
            for (int day = 0; c.get(Calendar.YEAR) == year; day++) {
                x = day % 100 == 99 ? new SaintsRoad() : x;
                CHECK.due("month of " + day + ", " + year, x.date(year, day, 0), c.get(Calendar.MONTH) + 1);
                CHECK.due("date of " + day + ", " + year, x.date(year, day, 1), c.get(Calendar.DAY_OF_MONTH));
                CHECK.due("weekday of " + day + ", " + year, x.date(year, day, 2),
                    c.get(Calendar.DAY_OF_WEEK) - Calendar.SUNDAY);
                c.add(Calendar.DAY_OF_MONTH, 1);
            }
        }
        SaintsRoad x = new SaintsRoad();
        for (int year = 1; year <= 2000; year++) {
            x = year % 500 == 1 ? new SaintsRoad() : x;
            CHECK.due("the first weekday of " + year, x.date(year, 0, 2), weekdayOf(year, 1, 1));
        }
    }

    private static void dateRefused() {
        CHECK.says("day of the week (0 Sunday .. 6 Saturday). NONE when there is none such");
        SaintsRoad x = new SaintsRoad();
        CHECK.bounds("YEAR", 1, 2000, -1, year -> x.date(year, 0, 2));
        CHECK.bounds("day of YEAR 5", 0, 364, -1, day -> x.date(5, day, 1));
        CHECK.bounds("day of YEAR 4", 0, 365, -1, day -> x.date(4, day, 1));
        CHECK.bounds("what", 0, 2, -1, what -> x.date(4, 0, what));
    }

    private static void feastsNumbered() {
        CHECK.says("FEASTS are numbered from 0 as they are told");
        SaintsRoad x = Check.with("fixed 12 1 rank 8 z; lent 5; fixed 1 1 rank 1 a; wax 1 1; moved 1 rank 4 m;");
        CHECK.due("FEASTS", x.count(10), 3);
        CHECK.due("the first", x.feast(0, 0, 10), 'z');
        CHECK.due("the second", x.feast(0, 1, 10), 'a');
        CHECK.due("the third", x.feast(0, 2, 10), 'm');
        CHECK.due("none behind it", x.feast(0, 3, 10), -1);
    }

    private static void fromAndTill() {
        CHECK.says("One is IN a YEAR from its from (1) to its till (2000), if its day is there");
        SaintsRoad x = Check.with("fixed 1 1 rank 1 a; fixed 1 2 rank 1 b from 50; fixed 1 3 rank 1 c till 60;"
            + " fixed 1 4 rank 1 d from 50 till 60; fixed 1 5 rank 1 e from 55 till 55; moved 0 rank 1 f till 60 from 50;"
            + " sunday 1 7 rank 1 g from 50 till 60; fixed 1 6 rank 1 h from 1 till 2000;");
        int[][] spans = {{1, 2000}, {50, 2000}, {1, 60}, {50, 60}, {55, 55}, {50, 60}, {50, 60}, {1, 2000}};
        for (int year : new int[] {1, 49, 50, 54, 55, 56, 60, 61, 2000}) {
            for (int f = 0; f < spans.length; f++) {
                boolean in = year >= spans[f][0] && year <= spans[f][1];
                CHECK.due(f + " is IN " + year, x.own(0, year, f) == -10 ? 0 : 1, in ? 1 : 0);
                CHECK.due(f + " is HELD in " + year, x.held(0, year, f) == -10 ? 0 : 1, in ? 1 : 0);
            }
        }
    }

    private static void fixedDays() {
        CHECK.says("of fixed the date");
        SaintsRoad x = Check.with("fixed 1 1 rank 1 a; fixed 2 28 rank 1 b; fixed 2 29 rank 1 c; fixed 3 1 rank 1 d;"
            + " fixed 12 31 rank 1 e; fixed 4 30 rank 1 f; fixed 10 14 rank 1 g;");
        int[] shortYear = {0, 58, -10, 59, 364, 119, 286};
        int[] longYear = {0, 58, 59, 60, 365, 120, 287};
        for (int f = 0; f < shortYear.length; f++) {
            for (int year : new int[] {1, 3, 5, 1999}) {
                CHECK.due("own " + f + " in " + year, x.own(0, year, f), shortYear[f]);
                CHECK.due("held " + f + " in " + year, x.held(0, year, f), shortYear[f]);
            }
            for (int year : new int[] {4, 100, 2000}) {
                CHECK.due("own " + f + " in " + year, x.own(0, year, f), longYear[f]);
                CHECK.due("held " + f + " in " + year, x.held(0, year, f), longYear[f]);
            }
        }
    }

    private static void movedDays() {
        CHECK.says("of moved EASTER and N (within the YEAR)");
        String text = "moved 90 rank 1 a; moved -90 rank 1 b; moved -85 rank 1 c; moved 0 rank 1 d;";
        int[] shifts = {90, -90, -85, 0};
        int onTheFirst = 0;
        int ahead = 0;
        for (int year = 1; year <= 2000; year += 3) {
            SaintsRoad x = Check.with(text);
            for (int f = 0; f < shifts.length; f++) {
                int day = x.easter(year) + shifts[f];
                onTheFirst += day == 0 ? 1 : 0;
                ahead += day == -1 ? 1 : 0;
                CHECK.due("own " + f + " in " + year, x.own(0, year, f), day >= 0 ? day : -10);
            }
        }
        CHECK.that("some fall on the first day, some just ahead of it", onTheFirst > 0 && ahead > 0);
        // EASTER of YEAR 1 is day 85.
        SaintsRoad x = Check.with("moved -85 rank 1 a; moved -86 rank 1 b;");
        CHECK.due("the first day", x.own(0, 1, 0), 0);
        CHECK.due("ahead of the YEAR", x.own(0, 1, 1), -10);
        CHECK.due("held on the first day", x.held(0, 1, 0), 0);
        CHECK.due("not held", x.held(0, 1, 1), -10);
    }

    private static void sundays() {
        CHECK.says("of sunday the K-th Sunday (not a fifth one that there isn't)");
        StringBuilder text = new StringBuilder();
        for (int month = 1; month <= 12; month++) {
            for (int k = 1; k <= 5; k++) {
                text.append("sunday ").append(k).append(' ').append(month).append(" rank 1 ")
                    .append((char) ('a' + month)).append((char) ('a' + k)).append(';');
            }
        }
        // 28 YEARS have every way in which days of the week fall.
        for (int year = 1973; year <= 2000; year++) {
            SaintsRoad x = Check.with(text.toString());
            for (int month = 1; month <= 12; month++) {
                int first = 1;
                while (weekdayOf(year, month, first) != 0) {
                    first++;
                }
                int last = julian(year, month, 1).getActualMaximum(Calendar.DAY_OF_MONTH);
                for (int k = 1; k <= 5; k++) {
                    int date = first + 7 * (k - 1);
                    CHECK.due("Sunday " + k + " of " + month + " in " + year, x.own(0, year, 5 * (month - 1) + k - 1),
                        date <= last ? dayOf(year, month, date) : -10);
                }
            }
        }
        SaintsRoad x = Check.with("sunday 5 2 rank 1 a; sunday 5 1 rank 1 b;");
        CHECK.due("a fifth one of February", x.held(0, 20, 0), weekdayOf(20, 2, 29) == 0 ? 59 : -10);
        CHECK.due("a fifth one that there isn't", x.held(0, 5, 0), -10);
    }

    private static void ownRefused() {
        CHECK.says("Its OWN day; -10: not IN the YEAR; RANGE");
        SaintsRoad x = Check.with(Check.daily(60, 1));
        for (int p = 1; p <= 3; p++) {
            Check.tell(x, p, "fixed 1 2 rank 1 a till 1999; fixed 1 2 rank 1 b;");
        }
        CHECK.bounds("PLACE", 0, 3, -2, p -> x.own(p, 5, 0));
        CHECK.bounds("YEAR", 1, 2000, -2, year -> x.own(3, year, 0));
        CHECK.bounds("FEAST", 0, 59, -2, f -> x.own(0, 5, f));
        CHECK.bounds("FEAST of PLACE 3", 0, 1, -2, f -> x.own(3, 5, f));
        CHECK.due("not IN the YEAR", x.own(3, 2000, 0), -10);
        CHECK.due("no FEAST, and no YEAR", x.own(3, 2001, 2), -2);
        CHECK.due("LOST, its OWN day still", x.own(3, 1999, 1), 1);
        CHECK.due("of a PLACE without any", new SaintsRoad().own(0, 5, 0), -2);
    }
}
