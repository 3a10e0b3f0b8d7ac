/** Promises 2 to 6: feed, end, calendar, fault, feast. */
public final class TapeTest {
    private static final Check CHECK = new Check();
    private static final int BLANKS = 0x20202020;

    public static void main(String[] args) {
        feedOrder();
        feedBehind();
        feedFull();
        endKeepsFirst();
        endRefused();
        calendarReads();
        calendarEmptiesTheTape();
        calendarOfEachPlace();
        calendarRefused();
        calendarFaulty();
        faultOfTheLatest();
        faultWithout();
        faultOther();
        feastTold();
        feastLetters();
        feastRefused();
        CHECK.finish();
    }

    private static int blank(SaintsRoad x) {
        return x.feed(BLANKS, BLANKS, BLANKS, BLANKS, BLANKS);
    }

    /** A new object whose TAPE has so many bytes, all blanks. */
    private static SaintsRoad blanks(int n) {
        SaintsRoad x = new SaintsRoad();
        for (int fed = 0; fed < n && fed < 4000; fed += 20) {
            blank(x);
        }
        CHECK.due("end(" + n + ")", x.end(n), n);
        return x;
    }

    private static void feedOrder() {
        CHECK.says("Twenty bytes come behind THE TAPE, the highest of each int first");
        SaintsRoad x = new SaintsRoad();
        // fixed 1 1 rank 1 ab;
        x.feed(0x66697865, 0x64203120, 0x31207261, 0x6e6b2031, 0x2061623b);
        CHECK.due("calendar", x.calendar(0), 1);
        CHECK.due("the letter ahead", x.feast(0, 0, 10), 'a');
        CHECK.due("the letter behind", x.feast(0, 0, 11), 'b');
        for (int i = 0; i < 20; i++) {
            // One byte that no text has, the rest blanks: its FAULT tells where it came.
            int[] ints = {BLANKS, BLANKS, BLANKS, BLANKS, BLANKS};
            ints[i / 4] ^= 0xdf << (24 - 8 * (i % 4));
            x.feed(ints[0], ints[1], ints[2], ints[3], ints[4]);
            CHECK.due("byte " + i, x.calendar(0), -1);
            CHECK.due("PLACE of byte " + i, x.fault(1), i);
        }
    }

    private static void feedBehind() {
        CHECK.says("how many it has");
        SaintsRoad x = new SaintsRoad();
        for (int n = 20; n <= 4000; n += 20) {
            CHECK.due("feed", blank(x), n);
        }
        CHECK.due("count", x.count(0), 4000);
        CHECK.due("calendar", x.calendar(0), 0);
        CHECK.due("feed anew", blank(x), 20);
        x = new SaintsRoad();
        Check.write(x, "fixed 1 1 ra");
        Check.write(x, "nk 1 a");
        Check.write(x, "b;");
        CHECK.due("bytes", x.count(0), 20);
        CHECK.due("one text", x.calendar(0), 1);
        CHECK.due("one NAME", x.feast(0, 0, 6), 2);
    }

    private static void feedFull() {
        CHECK.says("FULL when there would be more than 4000");
        CHECK.due("from 3980", blank(blanks(3980)), 4000);
        for (int n : new int[] {3981, 3984, 3999, 4000}) {
            SaintsRoad x = blanks(n);
            CHECK.due("from " + n, x.feed(0, 0, 0, 0, 0), -3);
            CHECK.due("bytes still", x.count(0), n);
            CHECK.due("no byte came", x.calendar(0), 0);
        }
    }

    private static void endKeepsFirst() {
        CHECK.says("THE TAPE has its first n bytes alone: n");
        SaintsRoad x = new SaintsRoad();
        Check.write(x, "lent 40;lent 41;xxxx");
        CHECK.due("all of it", x.end(20), 20);
        CHECK.due("bytes", x.count(0), 20);
        CHECK.due("the first", x.end(5), 5);
        CHECK.due("bytes then", x.count(0), 5);
        Check.write(x, "5;");
        CHECK.due("what was behind is gone", x.calendar(0), 0);
        CHECK.due("lent 5, the first", x.fast(0, 5, 96), 1);
        CHECK.due("lent 5, ahead of it", x.fast(0, 5, 95), 0);
        CHECK.due("none of none", x.end(0), 0);
        blank(x);
        CHECK.due("none of some", x.end(0), 0);
        CHECK.due("no bytes", x.count(0), 0);
        CHECK.due("one alone", blank(x), 20);
        CHECK.due("one alone", x.end(1), 1);
        CHECK.due("of a full one", blanks(4000).end(4000), 4000);
    }

    private static void endRefused() {
        CHECK.says("NONE when it has not so many, or n is below 0");
        SaintsRoad x = new SaintsRoad();
        CHECK.due("end(1) of none", x.end(1), -1);
        Check.write(x, "lent 40;");
        CHECK.bounds("end", 0, 8, -1, n -> n == 0 ? 0 : x.end(n));
        CHECK.due("all is there", x.count(0), 8);
        CHECK.due("its first 7", x.end(7), 7);
        CHECK.due("not 8 any more", x.end(8), -1);
        CHECK.due("it reads on", x.calendar(0), -1);
        CHECK.due("to its end", x.fault(1), 7);
        CHECK.bounds("end of 4000", 0, 4000, -1, n -> blanks(4000).end(n));
    }

    private static void calendarReads() {
        CHECK.says("is the CALENDAR of PLACE p: how many FEASTS");
        SaintsRoad x = new SaintsRoad();
        CHECK.due("an empty text", x.calendar(0), 0);
        CHECK.due("one", Check.tell(x, 0, "fixed 1 5 rank 1 a;"), 1);
        CHECK.due("its day", x.held(0, 5, 0), 4);
        CHECK.due("no FEAST", Check.tell(x, 0, "wax 1 5; yield 8 9; lent 90;"), 0);
        CHECK.due("the FEAST is gone", x.office(0, 5, 4), -10);
        CHECK.due("two", Check.tell(x, 0, "fixed 1 1 rank 1 a octave vigil; fixed 1 1 rank 1 b;"), 2);
        CHECK.due("the wax is gone", x.wax(0, 5, 0, 364), 0);
        CHECK.due("yield is gone", x.held(0, 5, 1), -1);
        CHECK.due("lent is gone", x.fast(0, 5, 100), 0);
        for (int time = 1; time <= 3; time++) {
            CHECK.due("one", Check.tell(x, 0, "fixed 1 " + time + " rank 1 a;"), 1);
            CHECK.due("the octave is gone", x.feast(0, 0, 3), 0);
            CHECK.due("the vigil is gone", x.feast(0, 0, 2), 0);
            CHECK.due("its day, time " + time, x.held(0, 5, 0), time - 1);
        }
        CHECK.due("a text of blanks", Check.tell(x, 0, " \n "), 0);
        CHECK.due("all is gone", x.count(10), 0);
        CHECK.due("sixty", Check.tell(x, 0, Check.daily(60, 1)), 60);
        CHECK.due("sixty", x.count(10), 60);
        CHECK.due("the last of them", x.held(0, 4, 59), 59);
    }

    private static void calendarEmptiesTheTape() {
        CHECK.says("THE TAPE (read, and empty then)");
        SaintsRoad x = new SaintsRoad();
        Check.write(x, "fixed 1 1 rank 1 a;");
        CHECK.due("read", x.calendar(0), 1);
        CHECK.due("empty then", x.count(0), 0);
        CHECK.due("not a byte", x.end(1), -1);
        CHECK.due("an empty one is a text, too", x.calendar(0), 0);
        CHECK.due("of no FEAST", x.count(10), 0);
        Check.write(x, "fixed 0");
        CHECK.due("read with a FAULT", x.calendar(0), -1);
        CHECK.due("empty then, too", x.count(0), 0);
    }

    private static void calendarOfEachPlace() {
        CHECK.says("PLACES 0 .. 3, each with a CALENDAR (an empty one at first)");
        SaintsRoad x = new SaintsRoad();
        for (int p = 0; p < 4; p++) {
            CHECK.due("at first " + p, x.count(10 + p), 0);
            CHECK.due("no FEAST in " + p, x.feast(p, 0, 0), -1);
            CHECK.due("not held in " + p, x.held(p, 5, 0), -2);
            CHECK.due("a day of " + p, x.office(p, 5, 0), -10);
            CHECK.due("no fast in " + p, x.fast(p, 5, 100), 0);
            CHECK.due("no wax in " + p, x.wax(p, 5, 0, 364), 0);
        }
        for (int p = 0; p < 4; p++) {
            CHECK.due("one NAME in all, " + p, Check.tell(x, p, Check.daily(p + 1, p + 1)), p + 1);
        }
        for (int p = 0; p < 4; p++) {
            CHECK.due("FEASTS of " + p, x.count(10 + p), p + 1);
            CHECK.due("R in " + p, x.feast(p, p, 1), p + 1);
            CHECK.due("HELD in " + p, x.held(p, 5, p), p);
        }
        Check.tell(x, 2, "");
        CHECK.due("one is empty again", x.count(12), 0);
        CHECK.due("another is as it was", x.count(13), 4);
    }

    private static void calendarRefused() {
        CHECK.says("RANGE: no such PLACE; NONE with a FAULT");
        SaintsRoad x = new SaintsRoad();
        CHECK.bounds("calendar", 0, 3, -2, x::calendar);
        Check.tell(x, 1, "fixed 13");
        Check.write(x, "fixed 1 1 rank 1 a;");
        CHECK.bounds("calendar", 0, 3, -2, p -> p == 0 || p == 3 ? 0 : x.calendar(p));
        CHECK.due("RANGE leaves THE TAPE", x.count(0), 19);
        CHECK.due("RANGE leaves the FAULT", x.fault(0), 3);
        CHECK.due("it is read then", x.calendar(3), 1);
    }

    private static void calendarFaulty() {
        CHECK.says("NONE with a FAULT");
        SaintsRoad x = Check.with("fixed 3 1 rank 1 a octave vigil; wax 1 9; lent 1;");
        CHECK.due("a FAULT", Check.tell(x, 0, "fixed 5 1 rank 2 b; wax 1 5; lent 90; yield 8 30; fixed 1"), -1);
        CHECK.due("THE TAPE is empty", x.count(0), 0);
        CHECK.due("the CALENDAR is as it was", x.count(10), 1);
        CHECK.due("its FEAST", x.feast(0, 0, 10), 'a');
        CHECK.due("its day", x.held(0, 5, 0), 59);
        CHECK.due("its octave", x.office(0, 5, 60), -20);
        CHECK.due("its vigil", x.fast(0, 5, 58), 1);
        CHECK.due("its wax", x.wax(0, 5, 59, 59), 9);
        CHECK.due("its lent", x.fast(0, 5, 99), 0);
        for (int time = 1; time <= 3; time++) {
            Check.tell(x, 1, "wax 1 5; lent 9; yield 1 1; fixed 1 1 rank 1 b vigil octave from 9 till 9 %");
            CHECK.due("nothing of it comes into the next text", Check.tell(x, 1, "fixed 1 2 rank 1 a;"), 1);
            int[] row = {0, 1, 0, 0, 1, 2000, 1};
            for (int what = 0; what < row.length; what++) {
                CHECK.due("feast what " + what, x.feast(1, 0, what), row[what]);
            }
            CHECK.due("no wax", x.wax(1, 5, 0, 364), 0);
            CHECK.due("no lent", x.fast(1, 5, 100), 0);
        }
        Check.tell(x, 1, "%");
        CHECK.due("an empty text behind a FAULT", x.calendar(1), 0);
        CHECK.due("has none", x.fault(0), 0);
        CHECK.due("and no PLACE", x.fault(1), -1);
        CHECK.due("and is a CALENDAR", x.count(11), 0);
    }

    private static void faultOfTheLatest() {
        CHECK.says("Of the latest calendar() that wasn't RANGE, what 0: its FAULT's KIND");
        SaintsRoad x = new SaintsRoad();
        Check.tell(x, 0, "lent 91;");
        CHECK.due("KIND", x.fault(0), 3);
        CHECK.due("PLACE", x.fault(1), 5);
        x.calendar(4);
        x.calendar(-1);
        CHECK.due("KIND behind RANGE", x.fault(0), 3);
        CHECK.due("PLACE behind RANGE", x.fault(1), 5);
        Check.tell(x, 1, "lent 90; fixed 1 1 fixed");
        CHECK.due("KIND of the latest", x.fault(0), 1);
        CHECK.due("PLACE of the latest", x.fault(1), 19);
        CHECK.due("asked once more", x.fault(1), 19);
    }

    private static void faultWithout() {
        CHECK.says("0 without (and ahead of any), 1: its PLACE (NONE)");
        SaintsRoad x = new SaintsRoad();
        CHECK.due("KIND ahead of any", x.fault(0), 0);
        CHECK.due("PLACE ahead of any", x.fault(1), -1);
        x.calendar(4);
        CHECK.due("KIND behind RANGE alone", x.fault(0), 0);
        CHECK.due("PLACE behind RANGE alone", x.fault(1), -1);
        Check.tell(x, 0, "lent 91;");
        Check.tell(x, 1, "lent 90;");
        CHECK.due("KIND of a sound one", x.fault(0), 0);
        CHECK.due("PLACE of a sound one", x.fault(1), -1);
        Check.tell(x, 0, ";");
        CHECK.due("a PLACE that is 0", x.fault(1), 0);
        Check.tell(x, 0, "");
        CHECK.due("KIND of an empty one", x.fault(0), 0);
        CHECK.due("PLACE of an empty one", x.fault(1), -1);
    }

    private static void faultOther() {
        CHECK.says("NONE for another what");
        SaintsRoad x = new SaintsRoad();
        Check.tell(x, 0, "lent 91;");
        CHECK.bounds("fault", 0, 1, -1, x::fault);
    }

    private static void feastTold() {
        CHECK.says("what 0: 0 fixed, 1 moved, 2 sunday; 1: R, 2: 1 with vigil, 3: 1 with octave (else 0), 4: from, "
            + "5: till, 6: letters of its NAME");
        SaintsRoad x = Check.with("fixed 2 29 rank 3 abcdefghijkl; moved - 46 rank 8 z vigil from 12;"
            + " sunday 5 12 rank 1 q octave till 700; fixed 1 1 rank 2 w till 9 octave from 9 vigil;"
            + " moved 0 rank 1 ab from 1 till 2000;");
        int[][] rows = {
            {0, 3, 0, 0, 1, 2000, 12}, {1, 8, 1, 0, 12, 2000, 1}, {2, 1, 0, 1, 1, 700, 1},
            {0, 2, 1, 1, 9, 9, 1}, {1, 1, 0, 0, 1, 2000, 2}};
        for (int f = 0; f < rows.length; f++) {
            for (int what = 0; what < 7; what++) {
                CHECK.due("feast(0, " + f + ", " + what + ")", x.feast(0, f, what), rows[f][what]);
            }
        }
    }

    private static void feastLetters() {
        CHECK.says("10 + i: letter i of it");
        SaintsRoad x = Check.with("fixed 1 1 rank 1 abcdefghijkl; fixed 1 2 rank 1 mnopqrstuvwx;"
            + " fixed 1 3 rank 1 zy; fixed 1 4 rank 1 zzzzzzzzzzzz; fixed 1 5 rank 1 a;");
        for (int i = 0; i < 12; i++) {
            CHECK.due("letter " + i, x.feast(0, 0, 10 + i), 'a' + i);
            CHECK.due("letter " + i, x.feast(0, 1, 10 + i), 'm' + i);
            CHECK.due("letter " + i, x.feast(0, 3, 10 + i), 'z');
            CHECK.due("letter " + i + " of two", x.feast(0, 2, 10 + i), i == 0 ? 'z' : i == 1 ? 'y' : -1);
            CHECK.due("letter " + i + " of one", x.feast(0, 4, 10 + i), i == 0 ? 'a' : -1);
        }
        CHECK.due("no letter 12", x.feast(0, 0, 22), -1);
        CHECK.due("no letter 12", x.feast(0, 3, 22), -1);
    }

    private static void feastRefused() {
        CHECK.says("NONE when there is none such");
        SaintsRoad x = Check.with(Check.daily(60, 1));
        Check.tell(x, 3, "fixed 1 1 rank 1 abcdefghijkl;");
        CHECK.bounds("FEAST", 0, 59, -1, f -> x.feast(0, f, 0));
        CHECK.bounds("FEAST of PLACE 3", 0, 0, -1, f -> x.feast(3, f, 0));
        CHECK.bounds("what", 0, 11, -1, what -> x.feast(0, 0, what));
        CHECK.bounds("what", 0, 21, -1, what -> x.feast(3, 0, what));
        for (int what = 7; what <= 9; what++) {
            CHECK.due("what " + what, x.feast(3, 0, what), -1);
        }
        CHECK.bounds("PLACE", 0, 3, -1, p -> x.feast(p, 0, 0));
        CHECK.due("a PLACE without any", x.feast(1, 0, 0), -1);
        // Ten less comes round to the highest number of all.
        CHECK.due("what far below", x.feast(3, 0, Integer.MIN_VALUE + 10), -1);
    }
}
