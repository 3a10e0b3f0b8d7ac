/**
 * Term II, and promises 9, 10 and 12 to 15: office, held, fast, wax, next, unlike.
 *
 * Most of it is in YEAR 5, which begins on a Thursday: its days 3, 10, .., 59, .., 101 (EASTER) are Sundays.
 */
public final class OfficeTest {
    private static final Check CHECK = new Check();

    public static void main(String[] args) {
        dayByDay();
        heldOnTheirDay();
        leastRank();
        notAboveYieldsRank();
        lessThanSoManyTimes();
        withoutYield();
        beyondTheYear();
        octaveDays();
        latestOctave();
        octaveInThisYear();
        sundaysAndFerias();
        lent();
        lentDownToTheFirst();
        vigils();
        vigilsWithinTheYear();
        waxOfFeasts();
        waxOfOctaves();
        officeTold();
        officeRefused();
        heldTold();
        fastRefused();
        waxOfDays();
        nextFeast();
        nextToTheEnd();
        nextRefused();
        nextThirtyYears();
        unlikeDays();
        unlikeRefused();
        CHECK.finish();
    }

    /** The days on which the FEASTS of PLACE 0 are HELD in a YEAR, by held() and by office(). */
    private static void heldDays(String what, SaintsRoad x, int year, int... days) {
        for (int f = 0; f < days.length; f++) {
            CHECK.due(what + ": held " + f, x.held(0, year, f), days[f]);
            if (days[f] >= 0) {
                CHECK.due(what + ": office of its day", x.office(0, year, days[f]), f);
            }
        }
    }

    private static void offices(String what, SaintsRoad x, int year, int first, int... offices) {
        for (int i = 0; i < offices.length; i++) {
            CHECK.due(what + ": office of " + (first + i), x.office(0, year, first + i), offices[i]);
        }
    }

    private static void fasts(String what, SaintsRoad x, int year, int first, int... fasts) {
        for (int i = 0; i < fasts.length; i++) {
            CHECK.due(what + ": fast on " + (first + i), x.fast(0, year, first + i), fasts[i]);
        }
    }

    private static void dayByDay() {
        CHECK.says("OFFICES of a PLACE in a YEAR, day by day from 0 on");
        // b gives way to a on day 0 and to d on day 1; on day 2, c's own, it is told behind c or ahead of it.
        SaintsRoad x = Check.with("fixed 1 3 rank 2 c; fixed 1 1 rank 2 b; fixed 1 1 rank 1 a; fixed 1 2 rank 1 d; yield 2 2;");
        heldDays("from day 0", x, 5, 2, -1, 0, 1);
        x = Check.with("fixed 1 1 rank 2 b; fixed 1 3 rank 2 c; fixed 1 1 rank 1 a; fixed 1 2 rank 1 d; yield 2 2;");
        heldDays("from day 0, told first", x, 5, 2, 3, 0, 1);
        Check.tell(x, 1, "fixed 1 1 rank 1 z;");
        CHECK.due("of each PLACE", x.office(1, 5, 0), 0);
        CHECK.due("of each PLACE", x.office(1, 5, 1), -10);
        CHECK.due("of each YEAR", x.office(0, 6, 3), 1);
        CHECK.due("of the YEAR that was asked for first", x.office(0, 5, 0), 2);
    }

    private static void heldOnTheirDay() {
        CHECK.says("those that would be held on a day are the FEASTS whose OWN day it is and those moved on to it");
        SaintsRoad x = Check.with("fixed 1 1 rank 1 a; fixed 1 1 rank 2 b; fixed 1 2 rank 3 c; fixed 1 3 rank 1 d;"
            + " fixed 1 3 rank 4 e; fixed 1 4 rank 2 f; yield 8 30;");
        // b is moved on to c's day, c to d's; there c and e wait, then with f, then with each other.
        heldDays("one behind the other", x, 5, 0, 1, 4, 2, 5, 3);
        offices("one behind the other", x, 5, 0, 0, 1, 3, 5, 2, 4, -10);
    }

    private static void leastRank() {
        CHECK.says("the one of the least R is HELD, of one R the one told first");
        heldDays("the least R", Check.with("fixed 1 1 rank 3 a; fixed 1 1 rank 1 b; fixed 1 1 rank 2 c;"), 5, -1, 0, -1);
        heldDays("8 and 7", Check.with("fixed 1 1 rank 8 a; fixed 1 1 rank 7 b;"), 5, -1, 0);
        heldDays("told first", Check.with("fixed 1 1 rank 2 a; fixed 1 1 rank 2 b; fixed 1 1 rank 2 c;"), 5, 0, -1, -1);
        heldDays("told first, though of another kind",
            Check.with("moved 0 rank 1 a; fixed 4 12 rank 1 b; sunday 2 4 rank 1 c;"), 5, 101, -1, -1);
        heldDays("told first, though it was moved on",
            Check.with("fixed 1 1 rank 5 low; fixed 1 1 rank 1 a; fixed 1 2 rank 5 b; yield 5 9;"), 5, 1, 0, 2);
        heldDays("told first, though the other was moved on",
            Check.with("fixed 1 2 rank 5 b; fixed 1 1 rank 5 low; fixed 1 1 rank 1 a; yield 5 9;"), 5, 1, 2, 0);
        heldDays("moved on, and of a lesser R",
            Check.with("fixed 1 2 rank 5 b; fixed 1 1 rank 4 a; fixed 1 1 rank 1 c; yield 5 9;"), 5, 2, 1, 0);
    }

    private static void notAboveYieldsRank() {
        CHECK.says("Each other one is moved on to the next day, if its R is not above yield's R");
        String text = "fixed 1 1 rank 1 a; fixed 1 1 rank 2 b; fixed 1 1 rank 3 c; fixed 1 1 rank 4 d;";
        heldDays("yield 4", Check.with(text + "yield 4 30;"), 5, 0, 1, 2, 3);
        heldDays("yield 3", Check.with(text + "yield 3 30;"), 5, 0, 1, 2, -1);
        heldDays("yield 2", Check.with(text + "yield 2 30;"), 5, 0, 1, -1, -1);
        heldDays("yield 1", Check.with(text + "yield 1 30;"), 5, 0, -1, -1, -1);
        heldDays("yield 1, of one R", Check.with("fixed 1 1 rank 1 a; fixed 1 1 rank 1 b; yield 1 30;"), 5, 0, 1);
        heldDays("yield 8", Check.with("fixed 1 1 rank 8 a; fixed 1 1 rank 8 b; yield 8 30;"), 5, 0, 1);
        heldDays("yield 7", Check.with("fixed 1 1 rank 8 a; fixed 1 1 rank 8 b; yield 7 30;"), 5, 0, -1);
        heldDays("yield told first", Check.with("yield 3 30;" + text), 5, 0, 1, 2, -1);
    }

    private static void lessThanSoManyTimes() {
        CHECK.says("and it has been moved on less than yield's N times");
        String text = "fixed 1 1 rank 1 a; fixed 1 1 rank 2 b; fixed 1 1 rank 3 c; fixed 1 1 rank 4 d;";
        heldDays("0 times", Check.with(text + "yield 8 0;"), 5, 0, -1, -1, -1);
        heldDays("once", Check.with(text + "yield 8 1;"), 5, 0, 1, -1, -1);
        heldDays("twice", Check.with(text + "yield 8 2;"), 5, 0, 1, 2, -1);
        heldDays("thrice", Check.with(text + "yield 8 3;"), 5, 0, 1, 2, 3);
        // The times are each one's own: the second comes later, and is moved on from there.
        heldDays("its own times", Check.with("fixed 1 1 rank 1 a; fixed 1 1 rank 2 b; fixed 1 2 rank 1 c;"
            + " fixed 1 2 rank 3 d; yield 8 2;"), 5, 0, 2, 1, 3);
        SaintsRoad x = Check.with("yield 8 30; fixed 1 1 rank 2 low;" + Check.daily(30, 1));
        CHECK.due("30 times", x.held(0, 5, 0), 30);
        CHECK.due("30 times", x.office(0, 5, 30), 0);
        x = Check.with("yield 8 30; fixed 1 1 rank 2 low;" + Check.daily(31, 1));
        CHECK.due("it would be 31 times", x.held(0, 5, 0), -1);
        CHECK.due("it would be 31 times", x.office(0, 5, 31), -11);
        x = Check.with("yield 8 29; fixed 1 1 rank 2 low;" + Check.daily(30, 1));
        CHECK.due("29 times at most", x.held(0, 5, 0), -1);
    }

    private static void withoutYield() {
        CHECK.says("(without yield none is); else it is LOST");
        SaintsRoad x = Check.with("fixed 1 1 rank 1 a; fixed 1 1 rank 1 b octave vigil; fixed 1 1 rank 8 c;");
        heldDays("without yield", x, 5, 0, -1, -1);
        offices("LOST has no octave", x, 5, 1, -10, -10, -11);
        x = Check.with("fixed 1 8 rank 1 a; fixed 1 8 rank 2 b vigil;");
        CHECK.due("LOST has no vigil", x.fast(0, 5, 6), 0);
    }

    private static void beyondTheYear() {
        CHECK.says("so is what would be moved on beyond the YEAR");
        SaintsRoad x = Check.with("fixed 12 31 rank 1 a; fixed 12 31 rank 2 b; fixed 12 30 rank 1 c; fixed 12 30 rank 1 d;"
            + " fixed 12 29 rank 1 e; fixed 12 29 rank 8 f; yield 8 30;");
        heldDays("beyond the YEAR", x, 5, 364, -1, 363, -1, 362, -1);
        heldDays("beyond a long YEAR", x, 4, 365, -1, 364, -1, 363, -1);
        CHECK.due("none comes over", x.office(0, 6, 0), -10);
        CHECK.due("none comes over from a long one", x.office(0, 5, 0), -10);
        x = Check.with("fixed 12 30 rank 1 a; fixed 12 30 rank 2 b; yield 8 30;");
        heldDays("to the last day", x, 5, 363, 364);
        heldDays("to the last day of a long YEAR", x, 4, 364, 365);
    }

    private static void octaveDays() {
        CHECK.says("A day without a FEAST is in the OCTAVE of the FEAST with octave that was HELD latest, if that was "
            + "1 .. 7 days ago");
        // Days 68 and 65: a Sunday in the octave, and one behind it.
        SaintsRoad x = Check.with("fixed 3 10 rank 1 a octave;");
        offices("day 68", x, 5, 67, -10, 0, -20, -20, -20, -20, -20, -20, -20, -10, -10);
        CHECK.due("day 73 is a Sunday", x.date(5, 73, 2), 0);
        x = Check.with("fixed 1 1 rank 1 b; fixed 3 7 rank 1 a octave;");
        offices("day 65", x, 5, 64, -10, 1, -21, -21, -21, -21, -21, -21, -21, -11, -10);
        x = Check.with("fixed 3 10 rank 1 a octave; fixed 3 11 rank 8 b; fixed 3 17 rank 8 c;");
        offices("FEASTS in it", x, 5, 68, 0, 1, -20, -20, -20, -20, -20, 2, -10);
        x = Check.with("fixed 3 10 rank 1 b; fixed 3 10 rank 2 a octave; yield 8 1;");
        offices("from where it is HELD", x, 5, 68, 0, 1, -21, -21, -21, -21, -21, -21, -21, -10);
        x = Check.with("fixed 3 10 rank 1 a;");
        offices("without octave", x, 5, 68, 0, -10, -10);
    }

    private static void latestOctave() {
        CHECK.says("the OCTAVE of the FEAST with octave that was HELD latest");
        SaintsRoad x = Check.with("fixed 3 10 rank 1 a octave; fixed 3 12 rank 8 b octave; fixed 3 14 rank 1 c;");
        offices("the latest, not the highest", x, 5, 68, 0, -20, 1, -21, 2, -21, -21, -21, -21, -21, -10);
        x = Check.with("fixed 3 12 rank 8 b octave; fixed 3 10 rank 1 a octave;");
        offices("the latest, not the one told latest", x, 5, 68, 1, -21, 0, -20);
        x = Check.with("fixed 3 10 rank 1 a octave; fixed 3 11 rank 1 b octave; fixed 3 11 rank 2 c octave;");
        offices("one that is LOST has none", x, 5, 68, 0, 1, -21);
    }

    private static void octaveInThisYear() {
        CHECK.says("if that was 1 .. 7 days ago in this YEAR");
        SaintsRoad x = Check.with("fixed 12 28 rank 1 a octave;");
        offices("to the last day", x, 5, 361, 0, -20, -20, -20);
        offices("to the last day of a long YEAR", x, 4, 362, 0, -20, -20, -20);
        offices("not in the next YEAR", x, 6, 0, -10, -10, -11, -10);
        x = Check.with("fixed 12 31 rank 1 a octave;");
        offices("of the last day", x, 5, 363, -10, 0);
        offices("not in the next YEAR", x, 6, 0, -10, -10, -11);
    }

    private static void sundaysAndFerias() {
        CHECK.says("else it is a SUNDAY, or a FERIA");
        SaintsRoad x = new SaintsRoad();
        for (int day = 0; day < 365; day++) {
            CHECK.due("office of " + day, x.office(0, 5, day), day % 7 == 3 ? -11 : -10);
        }
        x = Check.with("fixed 1 4 rank 8 a;");
        offices("a FEAST on a Sunday", x, 5, 2, -10, 0, -10);
    }

    private static void lent() {
        CHECK.says("the days of lent (N days ahead of EASTER, down to the YEAR's first) but Sundays");
        for (int n : new int[] {0, 1, 7, 40, 90}) {
            SaintsRoad x = Check.with("lent " + n + "; fixed 4 10 rank 1 a; moved 0 rank 1 b;");
            for (int day = 0; day < 365; day++) {
                boolean fast = day >= 101 - n && day < 101 && day % 7 != 3;
                CHECK.due("lent " + n + ": fast on " + day, x.fast(0, 5, day), fast ? 1 : 0);
            }
        }
        fasts("without lent", new SaintsRoad(), 5, 98, 0, 0, 0, 0, 0);
        // 6 days ahead of EASTER is a Monday, 7 days the Sunday ahead of it.
        fasts("lent 6", Check.with("lent 6;"), 5, 93, 0, 0, 1, 1, 1, 1, 1, 1, 0, 0);
        fasts("lent 8", Check.with("lent 8;"), 5, 92, 0, 1, 0, 1, 1, 1, 1, 1, 1, 0, 0);
    }

    private static void lentDownToTheFirst() {
        CHECK.says("down to the YEAR's first");
        // EASTER of YEAR 1 is day 85, and its day 0 a Saturday.
        fasts("lent 85", Check.with("lent 85;"), 1, 0, 1, 0, 1);
        fasts("lent 84", Check.with("lent 84;"), 1, 0, 0, 0, 1);
        SaintsRoad x = Check.with("lent 90;");
        fasts("lent 90", x, 1, 0, 1, 0, 1);
        fasts("the end of that YEAR", x, 1, 358, 0, 0, 0, 0, 0, 0, 0);
        // EASTER of YEAR 4 is day 82: eight days of the YEAR ahead would be too many.
        fasts("lent 90 of YEAR 4", x, 4, 0, 1, 1, 1, 1, 1, 0);
        fasts("the end of the YEAR ahead", x, 3, 355, 0, 0, 0, 0, 0, 0, 0, 0, 0, 0);
    }

    private static void vigils() {
        CHECK.says("the day ahead of one on which a FEAST with vigil is HELD, if it is no Sunday, else the one ahead of "
            + "that");
        fasts("of a Thursday", Check.with("fixed 1 15 rank 1 a vigil;"), 5, 9, 0, 0, 0, 0, 1, 0, 0);
        fasts("of a Tuesday", Check.with("fixed 1 13 rank 1 a vigil;"), 5, 9, 0, 0, 1, 0, 0, 0, 0);
        fasts("of a Monday", Check.with("fixed 1 12 rank 1 a vigil;"), 5, 7, 0, 0, 1, 0, 0, 0, 0);
        fasts("of a Sunday", Check.with("fixed 1 11 rank 1 a vigil;"), 5, 7, 0, 0, 1, 0, 0, 0, 0);
        fasts("of a Saturday", Check.with("fixed 1 10 rank 1 a vigil;"), 5, 7, 0, 1, 0, 0, 0, 0, 0);
        fasts("without vigil", Check.with("fixed 1 15 rank 1 a octave;"), 5, 9, 0, 0, 0, 0, 0, 0, 0);
        fasts("of the last day", Check.with("fixed 12 31 rank 1 a vigil;"), 5, 361, 0, 0, 1, 0);
        fasts("of the last day of a long YEAR", Check.with("fixed 12 31 rank 1 a vigil;"), 4, 362, 0, 0, 1, 0);
        fasts("moved on", Check.with("fixed 1 8 rank 2 a vigil; fixed 1 8 rank 1 b; yield 2 2;"), 5, 5, 0, 0, 1, 0, 0);
        fasts("LOST", Check.with("fixed 1 8 rank 2 a vigil; fixed 1 8 rank 1 b;"), 5, 5, 0, 0, 0, 0, 0);
        fasts("of a FEAST on a vigil", Check.with("fixed 1 8 rank 1 a vigil; fixed 1 7 rank 1 b vigil;"), 5, 4, 0, 1, 1, 0);
        fasts("in lent", Check.with("lent 3; moved -2 rank 1 a vigil; moved 1 rank 1 b vigil;"), 5, 96, 0, 0, 1, 1, 1, 0, 0);
        fasts("the Saturday ahead of EASTER", Check.with("moved 1 rank 1 b vigil;"), 5, 97, 0, 0, 0, 1, 0, 0);
    }

    private static void vigilsWithinTheYear() {
        CHECK.says("else the one ahead of that (within the YEAR)");
        SaintsRoad x = Check.with("fixed 1 1 rank 1 a vigil;");
        fasts("of the first day", x, 5, 0, 0, 0, 0);
        fasts("the end of the YEAR ahead", x, 4, 363, 0, 0, 0);
        // YEAR 2 begins on a Sunday, YEAR 3 on a Monday.
        x = Check.with("fixed 1 2 rank 1 a vigil;");
        fasts("of a second day behind a Sunday", x, 2, 0, 0, 0, 0);
        fasts("the end of the YEAR ahead", x, 1, 361, 0, 0, 0, 0);
        fasts("of a second day behind another day", x, 3, 0, 1, 0, 0);
        x = Check.with("fixed 1 1 rank 1 a vigil;");
        fasts("of a first day that is a Monday", x, 3, 0, 0, 0);
        fasts("the end of the YEAR ahead of it", x, 2, 361, 0, 0, 0, 0);
        x = Check.with("fixed 1 3 rank 1 a vigil;");
        // Of YEAR 1, day 1 is a Sunday, and day 2 the day behind it.
        fasts("back to the first day", x, 1, 0, 1, 0, 0);
    }

    private static void waxOfFeasts() {
        CHECK.says("what wax tells of the R of its FEAST (0 else)");
        SaintsRoad x = Check.with("wax 1 9999; wax 8 1; wax 3 0; wax 2 5; fixed 1 1 rank 1 a; fixed 1 2 rank 8 b;"
            + " fixed 1 3 rank 3 c; fixed 1 4 rank 4 d; fixed 1 5 rank 2 e; fixed 1 5 rank 8 lost;");
        int[] wax = {9999, 1, 0, 0, 5, 0};
        for (int day = 0; day < wax.length; day++) {
            CHECK.due("wax of day " + day, x.wax(0, 5, day, day), wax[day]);
        }
        CHECK.due("a SUNDAY", x.wax(0, 5, 10, 10), 0);
        CHECK.due("the YEAR", x.wax(0, 5, 0, 364), 10005);
    }

    private static void waxOfOctaves() {
        CHECK.says("in an OCTAVE a fourth of what it tells of that FEAST's R (the whole part)");
        int[][] rows = {{0, 0}, {1, 0}, {3, 0}, {4, 1}, {7, 1}, {8, 2}, {103, 25}, {9999, 2499}};
        for (int[] row : rows) {
            SaintsRoad x = Check.with("wax 2 " + row[0] + "; fixed 3 10 rank 2 a octave;");
            CHECK.due("the FEAST, wax " + row[0], x.wax(0, 5, 68, 68), row[0]);
            CHECK.due("the first day, wax " + row[0], x.wax(0, 5, 69, 69), row[1]);
            CHECK.due("the last day, wax " + row[0], x.wax(0, 5, 75, 75), row[1]);
            CHECK.due("the day behind, wax " + row[0], x.wax(0, 5, 76, 76), 0);
            CHECK.due("all of it, wax " + row[0], x.wax(0, 5, 0, 364), row[0] + 7 * row[1]);
        }
        SaintsRoad x = Check.with("fixed 3 10 rank 2 a octave; wax 1 400;");
        CHECK.due("no wax told of its R", x.wax(0, 5, 0, 364), 0);
    }

    private static void officeTold() {
        CHECK.says("The OFFICE of a day: its FEAST; -10 FERIA, -11 SUNDAY, -20 and less: less 20 less the FEAST in whose "
            + "OCTAVE it is");
        StringBuilder text = new StringBuilder(Check.daily(59, 1));
        text.append("fixed 6 1 rank 1 zz octave;");
        SaintsRoad x = Check.with(text.toString());
        CHECK.due("FEAST 0", x.office(0, 5, 0), 0);
        CHECK.due("FEAST 59", x.office(0, 5, 151), 59);
        CHECK.due("the OCTAVE of FEAST 59", x.office(0, 5, 152), -79);
        CHECK.due("FERIA", x.office(0, 5, 159), -10);
        CHECK.due("SUNDAY", x.office(0, 5, 164), -11);
        x = Check.with("fixed 6 1 rank 1 zz octave;");
        CHECK.due("the OCTAVE of FEAST 0", x.office(0, 5, 152), -20);
    }

    private static void officeRefused() {
        CHECK.says("it is; RANGE: no such PLACE, YEAR, day");
        SaintsRoad x = new SaintsRoad();
        CHECK.bounds("PLACE", 0, 3, -2, p -> x.office(p, 5, 0));
        CHECK.bounds("YEAR", 1, 2000, -2, year -> x.office(0, year, 0));
        CHECK.bounds("day of YEAR 5", 0, 364, -2, day -> x.office(0, 5, day));
        CHECK.bounds("day of YEAR 4", 0, 365, -2, day -> x.office(3, 4, day));
        CHECK.bounds("day of YEAR 2000", 0, 365, -2, day -> x.office(3, 2000, day));
        CHECK.bounds("day of YEAR 1999", 0, 364, -2, day -> x.office(3, 1999, day));
    }

    private static void heldTold() {
        CHECK.says("The day on which a FEAST is HELD; -1 LOST; -10: not IN the YEAR; RANGE: no such PLACE, YEAR, FEAST");
        SaintsRoad x = Check.with("fixed 1 1 rank 1 a; fixed 1 1 rank 1 b; fixed 2 29 rank 1 c; fixed 1 5 rank 1 d till 4;"
            + " fixed 12 31 rank 1 e;");
        heldDays("YEAR 5", x, 5, 0, -1, -10, -10, 364);
        heldDays("YEAR 4", x, 4, 0, -1, 59, 4, 365);
        for (int p = 1; p <= 3; p++) {
            Check.tell(x, p, "fixed 1 2 rank 1 a;");
        }
        CHECK.bounds("PLACE", 0, 3, -2, p -> x.held(p, 5, 0));
        CHECK.bounds("YEAR", 1, 2000, -2, year -> x.held(3, year, 0));
        CHECK.bounds("FEAST", 0, 4, -2, f -> x.held(0, 5, f));
        CHECK.bounds("FEAST of PLACE 3", 0, 0, -2, f -> x.held(3, 5, f));
        SaintsRoad sixty = Check.with(Check.daily(60, 1));
        CHECK.bounds("FEAST of sixty", 0, 59, -2, f -> sixty.held(0, 4, f));
        CHECK.due("of a PLACE without any", new SaintsRoad().held(0, 5, 0), -2);
    }

    private static void fastRefused() {
        CHECK.says("1 on a FAST, else 0; RANGE as office()");
        SaintsRoad x = Check.with("lent 90;");
        CHECK.due("a FAST", x.fast(0, 5, 100), 1);
        CHECK.due("no FAST", x.fast(0, 5, 102), 0);
        CHECK.due("in another PLACE", x.fast(3, 5, 100), 0);
        CHECK.bounds("PLACE", 0, 3, -2, p -> x.fast(p, 5, 0));
        CHECK.bounds("YEAR", 1, 2000, -2, year -> x.fast(0, year, 0));
        CHECK.bounds("day of YEAR 5", 0, 364, -2, day -> x.fast(0, 5, day));
        CHECK.bounds("day of YEAR 4", 0, 365, -2, day -> x.fast(0, 4, day));
    }

    private static void waxOfDays() {
        CHECK.says("The WAX of days from .. to of a YEAR; RANGE: no such, or from above to");
        SaintsRoad x = Check.with("fixed 1 1 rank 1 a; fixed 12 31 rank 2 b; fixed 3 1 rank 3 c; wax 1 100; wax 2 20;"
            + " wax 3 3;");
        CHECK.due("all", x.wax(0, 5, 0, 364), 123);
        CHECK.due("but the first", x.wax(0, 5, 1, 364), 23);
        CHECK.due("but the last", x.wax(0, 5, 0, 363), 103);
        CHECK.due("to c", x.wax(0, 5, 1, 59), 3);
        CHECK.due("ahead of c", x.wax(0, 5, 1, 58), 0);
        CHECK.due("from c", x.wax(0, 5, 59, 363), 3);
        CHECK.due("one day", x.wax(0, 5, 0, 0), 100);
        CHECK.due("the last of a long YEAR", x.wax(0, 4, 365, 365), 20);
        CHECK.due("all of a long YEAR", x.wax(0, 4, 0, 365), 123);
        CHECK.due("from above to", x.wax(0, 5, 60, 59), -2);
        CHECK.due("from above to at the end", x.wax(0, 5, 364, 363), -2);
        CHECK.bounds("from", 0, 100, -2, from -> x.wax(0, 5, from, 100));
        CHECK.bounds("to", 100, 364, -2, to -> x.wax(0, 5, 100, to));
        CHECK.bounds("to in a long YEAR", 100, 365, -2, to -> x.wax(0, 4, 100, to));
        CHECK.bounds("both", 0, 364, -2, day -> x.wax(0, 5, day, day));
        CHECK.bounds("PLACE", 0, 3, -2, p -> x.wax(p, 5, 0, 0));
        CHECK.bounds("YEAR", 1, 2000, -2, year -> x.wax(0, year, 0, 364));
        // Sixty FEASTS of the most wax, and the octave of the last.
        SaintsRoad most = Check.with(Check.daily(59, 1) + "fixed 6 1 rank 1 zz octave; wax 1 9999;");
        CHECK.due("the most", most.wax(0, 5, 0, 364), 60 * 9999 + 7 * 2499);
    }

    private static void nextFeast() {
        CHECK.says("on which a FEAST of R not above r is HELD: 1000 times its YEAR and the day; NONE");
        SaintsRoad x = Check.with("fixed 3 1 rank 2 a octave; fixed 4 1 rank 1 b; fixed 5 1 rank 8 c from 40;"
            + " fixed 4 1 rank 8 lost; fixed 1 1 rank 5 d till 4;");
        CHECK.due("that day itself", x.next(0, 5, 59, 2), 5059);
        CHECK.due("from the day ahead", x.next(0, 5, 58, 2), 5059);
        CHECK.due("from the day behind", x.next(0, 5, 60, 2), 5090);
        CHECK.due("R not above 1", x.next(0, 5, 0, 1), 5090);
        CHECK.due("R not above 2", x.next(0, 5, 0, 2), 5059);
        CHECK.due("in the next YEAR", x.next(0, 5, 91, 8), 6059);
        CHECK.due("from the last day", x.next(0, 5, 364, 1), 6090);
        CHECK.due("R not above 7", x.next(0, 40, 92, 7), 41059);
        CHECK.due("R not above 8", x.next(0, 40, 92, 8), 40121);
        CHECK.due("a day that is 0", x.next(0, 1, 364, 5), 2000);
        CHECK.due("in an empty PLACE", x.next(1, 5, 0, 8), -1);
        x = Check.with("fixed 1 2 rank 1 a; fixed 1 2 rank 2 b; yield 8 1;");
        CHECK.due("where it is moved on to", x.next(0, 5, 2, 2), 5002);
        CHECK.due("not where its OWN day was", x.next(0, 5, 2, 1), 6001);
        x = Check.with("fixed 6 1 rank 3 late; fixed 2 1 rank 3 early;");
        CHECK.due("the first, not the one told first", x.next(0, 5, 0, 3), 5031);
        x = Check.with("fixed 1 1 rank 3 first; fixed 2 1 rank 3 second; fixed 1 2 rank 3 third;");
        CHECK.due("the YEAR's first day", x.next(0, 5, 0, 3), 5000);
        CHECK.due("behind it", x.next(0, 5, 1, 3), 5001);
        CHECK.due("behind that", x.next(0, 5, 2, 3), 5031);
    }

    private static void nextToTheEnd() {
        CHECK.says("The first day, from one on, to the end of YEAR 2000");
        SaintsRoad x = Check.with("fixed 3 1 rank 2 a; fixed 12 31 rank 1 b;");
        CHECK.due("into YEAR 2000", x.next(0, 1999, 364, 2), 1999364);
        CHECK.due("the end", x.next(0, 2000, 365, 1), 2000365);
        CHECK.due("up to the end", x.next(0, 2000, 61, 2), 2000365);
        x = Check.with("fixed 3 1 rank 2 a;");
        CHECK.due("in the last YEAR", x.next(0, 1999, 60, 2), 2000060);
        CHECK.due("none behind it", x.next(0, 2000, 61, 2), -1);
        CHECK.due("none from the last day", x.next(0, 2000, 365, 8), -1);
        x = Check.with("fixed 3 1 rank 2 a till 1980;");
        CHECK.due("few YEARS are left", x.next(0, 1981, 0, 8), -1);
    }

    private static void nextRefused() {
        CHECK.says("RANGE: no such PLACE, YEAR, day, r 1 .. 8");
        SaintsRoad x = Check.with("fixed 1 1 rank 1 a;");
        CHECK.bounds("PLACE", 0, 3, -2, p -> x.next(p, 5, 0, 8));
        CHECK.bounds("YEAR", 1, 2000, -2, year -> x.next(0, year, 0, 8));
        CHECK.bounds("day of YEAR 5", 0, 364, -2, day -> x.next(0, 5, day, 8));
        CHECK.bounds("day of YEAR 4", 0, 365, -2, day -> x.next(0, 4, day, 8));
        CHECK.bounds("day of YEAR 2000", 0, 365, -2, day -> x.next(0, 2000, day, 8));
        CHECK.bounds("r", 1, 8, -2, r -> x.next(0, 5, 0, r));
    }

    private static void nextThirtyYears() {
        CHECK.says("At most 30 YEARS (its own, too) are looked through: NONE then");
        SaintsRoad x = Check.with("fixed 5 1 rank 8 c from 40;");
        CHECK.due("30 YEARS", x.next(0, 11, 0, 8), 40121);
        CHECK.due("30 YEARS from the last day of one", x.next(0, 11, 364, 8), 40121);
        CHECK.due("31 YEARS", x.next(0, 10, 0, 8), -1);
        CHECK.due("31 YEARS from the last day of one", x.next(0, 10, 364, 8), -1);
        x = Check.with("fixed 12 31 rank 8 c from 2000;");
        CHECK.due("30 YEARS to the end", x.next(0, 1971, 0, 8), 2000365);
        CHECK.due("31 YEARS to the end", x.next(0, 1970, 0, 8), -1);
    }

    private static void unlikeDays() {
        CHECK.says("How many days of a YEAR have unlike OFFICES in two PLACES (FEASTS by their NAMES, OCTAVES by those of "
            + "their FEASTS)");
        SaintsRoad x = Check.with("fixed 3 1 rank 1 a octave; fixed 5 1 rank 1 b;");
        CHECK.due("two empty ones", x.unlike(1, 2, 5), 0);
        CHECK.due("one with itself", x.unlike(0, 0, 5), 0);
        CHECK.due("one empty", x.unlike(0, 1, 5), 9);
        CHECK.due("the other way", x.unlike(1, 0, 5), 9);
        Check.tell(x, 1, "fixed 5 1 rank 3 b; fixed 3 1 rank 2 a octave; lent 40; wax 2 5;");
        CHECK.due("of other numbers and ranks", x.unlike(0, 1, 5), 0);
        Check.tell(x, 1, "fixed 5 1 rank 3 b; fixed 3 2 rank 2 a octave;");
        // The first day, the FEAST against its octave, and the last day of the later octave.
        CHECK.due("a day later", x.unlike(0, 1, 5), 3);
        Check.tell(x, 1, "fixed 5 1 rank 3 c; fixed 3 1 rank 2 d octave;");
        CHECK.due("of other NAMES", x.unlike(0, 1, 5), 9);
        Check.tell(x, 1, "fixed 5 1 rank 3 b; fixed 3 1 rank 2 a;");
        CHECK.due("without octave", x.unlike(0, 1, 5), 7);
        Check.tell(x, 1, "fixed 5 1 rank 3 b; fixed 3 1 rank 2 a octave till 4;");
        CHECK.due("not IN the YEAR", x.unlike(0, 1, 5), 8);
        CHECK.due("IN the YEAR", x.unlike(0, 1, 4), 0);
        // FEAST 0 here against FEAST 0 there: one number, two NAMES, one longer than the other.
        x = Check.with("fixed 3 1 rank 1 ab octave;");
        Check.tell(x, 3, "fixed 3 1 rank 1 a octave;");
        CHECK.due("one NAME begins the other", x.unlike(0, 3, 5), 8);
        x = Check.with("fixed 12 31 rank 1 a; fixed 1 1 rank 1 b;");
        CHECK.due("the first day and the last", x.unlike(0, 1, 5), 2);
        CHECK.due("the first day and the last of a long YEAR", x.unlike(0, 1, 4), 2);
        x = Check.with("fixed 12 31 rank 1 a octave;");
        CHECK.due("the last day alone", x.unlike(0, 1, 5), 1);
        CHECK.due("the last day of a long YEAR alone", x.unlike(0, 1, 4), 1);
    }

    private static void unlikeRefused() {
        CHECK.says("OCTAVES by those of their FEASTS); RANGE");
        SaintsRoad x = new SaintsRoad();
        CHECK.bounds("PLACE", 0, 3, -2, p -> x.unlike(p, 1, 5));
        CHECK.bounds("the other PLACE", 0, 3, -2, q -> x.unlike(1, q, 5));
        CHECK.bounds("both PLACES", 0, 3, -2, p -> x.unlike(p, p, 5));
        CHECK.bounds("YEAR", 1, 2000, -2, year -> x.unlike(0, 1, year));
    }
}
