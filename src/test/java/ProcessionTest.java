/** Term IV, and promises 20 to 28: street, begin, goes, late, procession, meets, meeting, timed, count. */
public final class ProcessionTest {
    private static final Check CHECK = new Check();

    public static void main(String[] args) {
        corners();
        oneStreet();
        processions();
        beginnings();
        heads();
        atCorners();
        inStreets();
        oppositeWays();
        wholeMinutes();
        streetTold();
        streetRefused();
        minutesKept();
        beginAnew();
        beginRefused();
        goesOn();
        goesRefused();
        goesWithoutStreet();
        goesFull();
        lateTold();
        lateRefused();
        processionTold();
        processionRefused();
        meetsFirst();
        meetsTwoCorners();
        meetingFirst();
        longestWays();
        meetingRefused();
        timedFirst();
        timedUpTo1440();
        timedBegunThen();
        timedOthers();
        timedRefused();
        timedChangesNothing();
        countTold();
        countRefused();
        CHECK.finish();
    }

    /** A town whose STREETS k to k + 1 have k + 1 minutes. */
    private static SaintsRoad row() {
        SaintsRoad x = new SaintsRoad();
        for (int k = 0; k < 19; k++) {
            x.street(k, k + 1, k + 1);
        }
        return x;
    }

    /** A town whose CORNER 0 has STREETS of 10 minutes to 1, 2 and 3. */
    private static SaintsRoad star() {
        SaintsRoad x = new SaintsRoad();
        x.street(0, 1, 10);
        x.street(0, 2, 10);
        x.street(0, 3, 10);
        return x;
    }

    private static void walk(SaintsRoad x, int k, int minute, int tail, int... corners) {
        CHECK.due("begin " + k, x.begin(k, corners[0], minute, tail), 1);
        for (int i = 1; i < corners.length; i++) {
            CHECK.due("goes " + k + " to " + corners[i], x.goes(k, corners[i]), i + 1);
        }
    }

    /** The first minute at which 0 and 1 MEET, asked both ways, and by meets(). */
    private static void meeting(String what, SaintsRoad x, int minute) {
        CHECK.due(what, x.meeting(0, 1), minute);
        CHECK.due(what + ", the other way", x.meeting(1, 0), minute);
        CHECK.due(what + ", meets", x.meets(), minute < 0 ? -1 : 1);
    }

    private static void corners() {
        CHECK.says("STREETS join two CORNERS (0 .. 19), with minutes 1 .. 60");
        SaintsRoad x = new SaintsRoad();
        CHECK.bounds("CORNER", 0, 19, -2, a -> x.street(a, 5, 1));
        CHECK.bounds("the other CORNER", 0, 19, -2, b -> x.street(6, b, 1));
        CHECK.bounds("minutes", 1, 60, -2, minutes -> minutes == 0 ? -2 : x.street(0, 19, minutes));
        CHECK.bounds("begin", 0, 19, -2, corner -> x.begin(0, corner, 0, 0));
        x.begin(0, 19, 0, 0);
        CHECK.due("19 to 0", x.goes(0, 0), 2);
        CHECK.due("60 minutes", x.procession(0, 31), 60);
        CHECK.due("0 to 5", x.goes(0, 5), 3);
        CHECK.due("1 minute", x.procession(0, 32), 61);
    }

    private static void oneStreet() {
        CHECK.says("one between two at most");
        SaintsRoad x = new SaintsRoad();
        x.street(3, 4, 10);
        CHECK.due("told again", x.street(3, 4, 11), 10);
        CHECK.due("told the other way", x.street(4, 3, 12), 11);
        CHECK.due("one", x.count(1), 1);
        walk(x, 0, 0, 0, 3, 4, 3);
        CHECK.due("there and back", x.procession(0, 32), 24);
        for (int a = 0; a < 20; a++) {
            for (int b = 0; b < a; b++) {
                x.street(a, b, 1 + (a + b) % 60);
            }
        }
        CHECK.due("all that there can be", x.count(1), 190);
    }

    private static void processions() {
        CHECK.says("PROCESSIONS 0 .. 11, each with 2 .. 12 CORNERS, one behind the other joined by STREETS (now)");
        SaintsRoad x = row();
        CHECK.bounds("begin", 0, 11, -2, k -> x.begin(k, 0, 0, 0));
        CHECK.bounds("goes", 0, 11, -2, k -> x.goes(k, 1));
        CHECK.due("two CORNERS", x.procession(11, 0), 2);
        for (int i = 3; i <= 12; i++) {
            CHECK.due("CORNER " + i, x.goes(11, i % 2 == 0 ? 1 : 0), i);
        }
        CHECK.due("no more than twelve", x.goes(11, 0), -3);
        CHECK.due("a STREET that was", x.street(1, 2, 0), 2);
        CHECK.due("it is none now", x.goes(0, 2), -1);
        x.street(1, 2, 7);
        CHECK.due("it is one now", x.goes(0, 2), 3);
    }

    private static void beginnings() {
        CHECK.says("a minute 0 .. 1440 at which it begins, and a tail of 0 .. 30 minutes");
        SaintsRoad x = row();
        CHECK.bounds("minute", 0, 1440, -2, minute -> x.begin(0, 0, minute, 0));
        CHECK.bounds("tail", 0, 30, -2, tail -> x.begin(0, 0, 0, tail));
        walk(x, 0, 1440, 30, 0, 1);
        CHECK.due("the latest", x.procession(0, 1), 1440);
        CHECK.due("its head beyond the day", x.procession(0, 31), 1441);
        CHECK.due("its tail beyond the day", x.procession(0, 2), 1471);
        walk(x, 0, 0, 0, 0, 1);
        CHECK.due("the earliest", x.procession(0, 1), 0);
        CHECK.due("no tail", x.procession(0, 2), 1);
    }

    private static void heads() {
        CHECK.says("its head is at each CORNER when it has gone the STREETS ahead");
        SaintsRoad x = row();
        walk(x, 4, 100, 5, 3, 4, 5, 4, 3, 2);
        int[] minutes = {100, 104, 109, 114, 118, 121};
        for (int i = 0; i < minutes.length; i++) {
            CHECK.due("head at " + i, x.procession(4, 30 + i), minutes[i]);
        }
        for (int a = 0; a < 2; a++) {
            x.street(a, a + 1, 60);
        }
        walk(x, 5, 1440, 30, 0, 1, 2, 1, 0, 1, 2, 1, 0, 1, 2, 1);
        CHECK.due("the longest way of all", x.procession(5, 41), 1440 + 660);
        CHECK.due("its tail", x.procession(5, 2), 1440 + 660 + 30);
    }

    private static void atCorners() {
        CHECK.says("It is at a CORNER from its head's coming till tail minutes behind that");
        CHECK.says("Two MEET at a CORNER, if they are there at one minute (ends too)");
        SaintsRoad x = star();
        // 0 is at CORNER 0 from 110 to 115.
        walk(x, 0, 100, 5, 1, 0);
        for (int minute = 94; minute <= 108; minute++) {
            // 1 is there from minute + 10 to minute + 12.
            walk(x, 1, minute, 2, 2, 0);
            boolean meet = minute + 12 >= 110 && minute + 10 <= 115;
            meeting("begun at " + minute, x, meet ? Math.max(110, minute + 10) : -1);
        }
        walk(x, 1, 115, 0, 0, 2);
        meeting("it begins there at the end of the other's tail", x, 115);
        walk(x, 1, 116, 0, 0, 2);
        meeting("it begins there behind the other's tail", x, -1);
        walk(x, 1, 100, 10, 0, 2);
        meeting("its tail leaves there as the other comes", x, 110);
        walk(x, 1, 100, 9, 0, 2);
        meeting("its tail has left there as the other comes", x, -1);
        walk(x, 1, 90, 0, 0, 2, 0);
        meeting("at its second coming", x, 110);
        walk(x, 1, 70, 0, 0, 2, 0, 3, 0);
        meeting("at its third coming", x, 110);
        walk(x, 1, 100, 0, 0, 2, 0, 3);
        meeting("between two comings", x, -1);
        walk(x, 1, 100, 0, 2, 0);
        walk(x, 0, 100, 0, 1, 0);
        meeting("both heads at once, without tails", x, 110);
        walk(x, 1, 101, 0, 2, 0);
        meeting("a minute apart, without tails", x, -1);
    }

    private static void inStreets() {
        CHECK.says("in a STREET from its head's leaving the one CORNER till tail minutes behind its coming to the other");
        CHECK.says("in a STREET, if they go it opposite ways and are in it at one minute (ends too)");
        SaintsRoad x = star();
        // 0 is in the STREET from 100 to 113.
        walk(x, 0, 100, 3, 0, 1);
        for (int minute = 80; minute <= 120; minute++) {
            // 1 is in it from minute to minute + 14.
            walk(x, 1, minute, 4, 1, 0);
            boolean meet = minute + 14 >= 100 && minute <= 113;
            meeting("begun at " + minute, x, meet ? Math.max(100, minute) : -1);
        }
        // Neither is at a CORNER with the other: 5 minutes in the STREET are enough.
        walk(x, 0, 100, 0, 0, 1);
        walk(x, 1, 105, 0, 1, 0);
        meeting("in the midst", x, 105);
        // They keep the minutes that they were told with: 0 goes in 10, 1 in 60.
        x.street(0, 1, 60);
        walk(x, 1, 39, 0, 1, 0);
        meeting("with other minutes, gone", x, -1);
        walk(x, 1, 40, 0, 1, 0);
        meeting("with other minutes", x, 100);
        walk(x, 1, 70, 0, 1, 0);
        meeting("with other minutes, in the midst", x, 100);
        x.street(0, 1, 0);
        meeting("of a STREET that is none any more", x, 100);
    }

    private static void oppositeWays() {
        CHECK.says("if they go it opposite ways");
        SaintsRoad x = star();
        walk(x, 0, 100, 3, 0, 1);
        walk(x, 1, 104, 3, 0, 1);
        meeting("the same way behind it", x, -1);
        walk(x, 1, 103, 3, 0, 1);
        meeting("the same way, at the CORNER yet", x, 103);
        walk(x, 1, 96, 3, 0, 1);
        meeting("the same way ahead of it", x, -1);
        walk(x, 1, 94, 0, 2, 0, 1);
        meeting("the same way on a longer way", x, -1);
        walk(x, 1, 105, 0, 2, 0);
        meeting("in unlike STREETS", x, -1);
        walk(x, 1, 85, 0, 2, 0, 1, 0);
        meeting("the same way, then back", x, 105);
    }

    private static void wholeMinutes() {
        CHECK.says("(At a minute means whole minutes.)");
        SaintsRoad x = new SaintsRoad();
        x.street(0, 1, 1);
        // 0 is in the STREET at 100 and at 101, at each CORNER at one of them.
        walk(x, 0, 100, 0, 0, 1);
        int[] first = {-1, 100, 100, 101, -1};
        for (int i = 0; i < first.length; i++) {
            walk(x, 1, 98 + i, 0, 1, 0);
            meeting("the other way, begun at " + (98 + i), x, first[i]);
        }
        for (int minute = 99; minute <= 101; minute++) {
            walk(x, 1, minute, 0, 0, 1);
            meeting("the same way, begun at " + minute, x, minute == 100 ? 100 : -1);
        }
        CHECK.due("timed against it", x.timed(1, 100), 101);
    }

    private static void streetTold() {
        CHECK.says("A STREET between two CORNERS has minutes (0: there is none any more): what it had (0: there was none)");
        SaintsRoad x = new SaintsRoad();
        CHECK.due("none there to end", x.street(0, 19, 0), 0);
        CHECK.due("none", x.count(1), 0);
        CHECK.due("a STREET", x.street(0, 19, 60), 0);
        CHECK.due("one", x.count(1), 1);
        CHECK.due("the same from the other end", x.street(19, 0, 1), 60);
        CHECK.due("one still", x.count(1), 1);
        CHECK.due("another", x.street(18, 0, 2), 0);
        CHECK.due("two", x.count(1), 2);
        CHECK.due("none any more", x.street(0, 19, 0), 1);
        CHECK.due("one again", x.count(1), 1);
        CHECK.due("none any more, told again", x.street(19, 0, 0), 0);
        CHECK.due("one still", x.count(1), 1);
        CHECK.due("the other is there", x.street(0, 18, 0), 2);
        CHECK.due("none", x.count(1), 0);
    }

    private static void streetRefused() {
        CHECK.says("RANGE: no such CORNERS, the same, minutes 0 .. 60");
        SaintsRoad x = row();
        CHECK.bounds("the one", 0, 19, -2, a -> x.street(a, 10, 0));
        CHECK.bounds("the other", 0, 19, -2, b -> x.street(10, b, 0));
        CHECK.bounds("minutes", 0, 60, -2, minutes -> x.street(0, 19, minutes));
        for (int a = 0; a < 20; a++) {
            CHECK.due("the same", x.street(a, a, 5), -2);
            CHECK.due("the same, none", x.street(a, a, 0), -2);
        }
        CHECK.due("a wrong CORNER of a number that fits", x.street(20, 0, 5), -2);
        CHECK.due("a wrong CORNER the other way", x.street(0, 20, 5), -2);
        CHECK.due("two wrong ones", x.street(-1, 20, 5), -2);
        CHECK.due("STREETS as they were", x.count(1), 20);
        CHECK.due("minutes as they were", x.street(0, 19, 1), 60);
        CHECK.due("minutes of another", x.street(1, 2, 2), 2);
    }

    private static void minutesKept() {
        CHECK.says("(PROCESSIONS keep the minutes that they were told with.)");
        SaintsRoad x = star();
        walk(x, 0, 100, 1, 1, 0);
        x.street(0, 1, 60);
        CHECK.due("its head", x.procession(0, 31), 110);
        CHECK.due("its tail", x.procession(0, 2), 111);
        x.street(0, 1, 0);
        CHECK.due("its head, without the STREET", x.procession(0, 31), 110);
        CHECK.due("its CORNERS", x.procession(0, 0), 2);
        CHECK.due("on by another", x.goes(0, 2), 3);
        CHECK.due("its head there", x.procession(0, 32), 120);
        x.late(0, 5);
        CHECK.due("its head when it is late", x.procession(0, 31), 115);
        walk(x, 1, 113, 0, 2, 0);
        CHECK.due("in MEETING, too", x.meeting(0, 1), 115);
        x.street(0, 1, 20);
        walk(x, 2, 100, 0, 1, 0);
        CHECK.due("a new one has the new minutes", x.procession(2, 31), 120);
    }

    private static void beginAnew() {
        CHECK.says("PROCESSION k begins anew at a CORNER: how many CORNERS it has (1); what it was is gone");
        SaintsRoad x = row();
        walk(x, 11, 100, 30, 0, 1, 2, 3);
        CHECK.due("anew", x.begin(11, 7, 5, 2), 1);
        int[][] rows = {{0, 1}, {1, 5}, {2, 7}, {10, 7}, {30, 5}, {11, -1}, {31, -1}};
        for (int[] row : rows) {
            CHECK.due("procession(11, " + row[0] + ")", x.procession(11, row[0]), row[1]);
        }
        CHECK.due("PROCESSIONS", x.count(3), 1);
        CHECK.due("it goes on from there", x.goes(11, 8), 2);
        CHECK.due("by that STREET", x.procession(11, 31), 13);
        CHECK.due("anew, from a full one", x.begin(11, 0, 0, 0), 1);
        CHECK.due("another is not begun", x.procession(10, 0), -1);
    }

    private static void beginRefused() {
        CHECK.says("RANGE: no such, minute 0 .. 1440, tail 0 .. 30");
        SaintsRoad x = row();
        CHECK.bounds("PROCESSION", 0, 11, -2, k -> x.begin(k, 0, 0, 0));
        CHECK.bounds("CORNER", 0, 19, -2, corner -> x.begin(0, corner, 0, 0));
        CHECK.bounds("minute", 0, 1440, -2, minute -> x.begin(0, 0, minute, 0));
        CHECK.bounds("tail", 0, 30, -2, tail -> x.begin(0, 0, 0, tail));
        SaintsRoad y = row();
        int[][] wrong = {{5, -1, 0, 0}, {5, 20, 0, 0}, {5, 0, -1, 0}, {5, 0, 1441, 0}, {5, 0, 0, -1}, {5, 0, 0, 31}};
        for (int[] w : wrong) {
            CHECK.due("a wrong one", y.begin(w[0], w[1], w[2], w[3]), -2);
            CHECK.due("begins none", y.procession(5, 0), -1);
        }
        CHECK.due("none begun", y.count(3), 0);
        walk(y, 5, 100, 3, 0, 1, 2);
        for (int[] w : wrong) {
            CHECK.due("a wrong one", y.begin(w[0], w[1], w[2], w[3]), -2);
            CHECK.due("leaves what it was", y.procession(5, 2), 106);
        }
    }

    private static void goesOn() {
        CHECK.says("It goes on to a CORNER by the STREET: how many CORNERS");
        SaintsRoad x = row();
        x.begin(0, 0, 1440, 30);
        int minute = 1440;
        for (int i = 1; i < 12; i++) {
            minute += i;
            CHECK.due("goes on", x.goes(0, i), i + 1);
            CHECK.due("CORNERS", x.procession(0, 0), i + 1);
            CHECK.due("its head", x.procession(0, 30 + i), minute);
            CHECK.due("its tail", x.procession(0, 2), minute + 30);
            CHECK.due("its CORNER", x.procession(0, 10 + i), i);
            CHECK.due("no CORNER more", x.procession(0, 11 + i), -1);
            CHECK.due("no minute more", x.procession(0, 31 + i), -1);
        }
    }

    private static void goesRefused() {
        CHECK.says("RANGE: no such PROCESSION (that was begun), CORNER");
        SaintsRoad x = row();
        for (int k = 0; k < 12; k++) {
            CHECK.due("not begun", x.goes(k, 1), -2);
        }
        for (int k = 0; k < 12; k++) {
            x.begin(k, 1, 0, 0);
        }
        CHECK.bounds("PROCESSION", 0, 11, -2, k -> x.goes(k, 2));
        x.street(0, 19, 5);
        x.begin(5, 0, 0, 0);
        CHECK.bounds("CORNER", 0, 19, -2, corner -> x.goes(5, corner));
        CHECK.due("not begun, and no CORNER", row().goes(0, 20), -2);
        CHECK.due("RANGE goes nowhere", x.procession(5, 0), 2);
    }

    private static void goesWithoutStreet() {
        CHECK.says("NONE: no STREET");
        SaintsRoad x = row();
        x.begin(0, 5, 0, 0);
        CHECK.due("to itself", x.goes(0, 5), -1);
        CHECK.due("to one that is far", x.goes(0, 7), -1);
        CHECK.due("still there", x.procession(0, 0), 1);
        CHECK.due("a STREET", x.goes(0, 6), 2);
        CHECK.due("a STREET from there", x.goes(0, 7), 3);
        x.street(7, 8, 0);
        CHECK.due("none any more", x.goes(0, 8), -1);
        CHECK.due("CORNERS", x.procession(0, 0), 3);
    }

    private static void goesFull() {
        CHECK.says("FULL: the 13th");
        SaintsRoad x = row();
        walk(x, 0, 0, 0, 0, 1, 2, 3, 4, 5, 6, 7, 8, 9, 10, 11);
        CHECK.due("the 13th", x.goes(0, 12), -3);
        CHECK.due("the 13th, back", x.goes(0, 10), -3);
        CHECK.due("twelve still", x.procession(0, 0), 12);
        CHECK.due("the twelfth is where it was", x.procession(0, 21), 11);
        CHECK.due("its minute", x.procession(0, 41), 66);
        CHECK.due("no 13th", x.procession(0, 22), -1);
        CHECK.due("no STREET to a 13th", x.goes(0, 15), -1);
        CHECK.due("no CORNER for a 13th", x.goes(0, 20), -2);
    }

    private static void lateTold() {
        CHECK.says("It is put off by so many minutes (1 .. 300): the minute at which it begins");
        SaintsRoad x = row();
        walk(x, 0, 0, 2, 3, 4);
        CHECK.bounds("late", 1, 300, -2, minutes -> x.late(0, minutes));
        CHECK.due("the minute", x.procession(0, 1), 301);
        CHECK.due("its head", x.procession(0, 31), 305);
        CHECK.due("its tail", x.procession(0, 2), 307);
        CHECK.due("put off again", x.late(0, 9), 310);
        x.begin(1, 5, 7, 0);
        CHECK.due("of one CORNER", x.late(1, 3), 10);
    }

    private static void lateRefused() {
        CHECK.says("RANGE, also if that were above 1440");
        SaintsRoad x = row();
        for (int k = 0; k < 12; k++) {
            CHECK.due("not begun", x.late(k, 5), -2);
        }
        for (int k = 0; k < 12; k++) {
            x.begin(k, 3, 1300, 0);
        }
        CHECK.bounds("PROCESSION", 0, 11, -2, k -> x.late(k, 1));
        CHECK.due("above 1440", x.late(5, 141), -2);
        CHECK.due("where it was", x.procession(5, 1), 1300);
        CHECK.due("just 1440", x.late(5, 140), 1440);
        CHECK.due("one more", x.late(5, 1), -2);
        CHECK.due("300 more", x.late(5, 300), -2);
        CHECK.due("the most", x.late(5, Integer.MAX_VALUE), -2);
        CHECK.due("1440 still", x.procession(5, 1), 1440);
        CHECK.due("0 minutes", x.late(6, 0), -2);
    }

    private static void processionTold() {
        CHECK.says("Of a PROCESSION (begun), what 0: CORNERS, 1: minute of its beginning, 2: minute at which its tail has "
            + "left; 10 + i: CORNER i; 30 + i: the minute at which its head is there");
        SaintsRoad x = row();
        walk(x, 7, 90, 4, 9, 8, 7);
        int[][] rows = {{0, 3}, {1, 90}, {2, 111}, {10, 9}, {11, 8}, {12, 7}, {30, 90}, {31, 99}, {32, 107}};
        for (int[] row : rows) {
            CHECK.due("procession(7, " + row[0] + ")", x.procession(7, row[0]), row[1]);
        }
        x.begin(7, 4, 20, 6);
        CHECK.due("of one CORNER: CORNERS", x.procession(7, 0), 1);
        CHECK.due("of one CORNER: tail", x.procession(7, 2), 26);
    }

    private static void processionRefused() {
        CHECK.says("head is there. NONE when there is none such");
        SaintsRoad x = row();
        for (int k = 0; k < 12; k++) {
            CHECK.due("not begun", x.procession(k, 0), -1);
            CHECK.due("not begun", x.procession(k, 2), -1);
            CHECK.due("not begun", x.procession(k, 10), -1);
        }
        for (int k = 0; k < 12; k++) {
            x.begin(k, 0, 0, 0);
        }
        CHECK.bounds("PROCESSION", 0, 11, -1, k -> x.procession(k, 0));
        walk(x, 0, 0, 0, 0, 1, 2, 3, 4, 5, 6, 7, 8, 9, 10, 11);
        CHECK.bounds("what of twelve CORNERS", 0, 41, -1, what -> x.procession(0, what));
        CHECK.bounds("what of one CORNER", 0, 30, -1, what -> x.procession(1, what));
        CHECK.bounds("CORNER", 10, 21, -1, what -> x.procession(0, what));
        CHECK.bounds("minute", 30, 41, -1, what -> x.procession(0, what));
        for (int what = 3; what <= 9; what++) {
            CHECK.due("what " + what, x.procession(0, what), -1);
        }
        for (int what = 22; what <= 29; what++) {
            CHECK.due("what " + what, x.procession(0, what), -1);
        }
        CHECK.due("CORNER 1 of one", x.procession(1, 11), -1);
        CHECK.due("what far below", x.procession(0, Integer.MIN_VALUE + 10), -1);
    }

    private static void meetsFirst() {
        CHECK.says("100 times the lesser one and the other, the least such number; NONE: none do");
        SaintsRoad x = row();
        CHECK.due("none begun", x.meets(), -1);
        walk(x, 11, 50, 0, 1, 0);
        CHECK.due("one alone", x.meets(), -1);
        walk(x, 10, 50, 0, 0, 1);
        CHECK.due("10 and 11", x.meets(), 1011);
        walk(x, 3, 60, 0, 9, 8);
        walk(x, 9, 60, 0, 8, 9);
        CHECK.due("3 and 9, though later", x.meets(), 309);
        walk(x, 4, 600, 0, 12, 13);
        walk(x, 3, 600, 0, 13, 12);
        CHECK.due("3 and 4 and no more 9", x.meets(), 304);
        walk(x, 0, 50, 0, 0, 1);
        CHECK.due("0 and 10", x.meets(), 10);
        walk(x, 1, 50, 0, 0, 1);
        CHECK.due("0 and 1", x.meets(), 1);
        walk(x, 0, 700, 0, 0, 1);
        CHECK.due("1 and 10", x.meets(), 110);
        x.late(1, 300);
        CHECK.due("put off", x.meets(), 304);
        x.late(4, 300);
        x.late(10, 100);
        CHECK.due("none do", x.meets(), -1);
    }

    private static void meetsTwoCorners() {
        CHECK.says("The first two PROCESSIONS of 2 CORNERS or more that MEET");
        SaintsRoad x = row();
        walk(x, 0, 50, 0, 1);
        walk(x, 1, 50, 0, 1);
        CHECK.due("of one CORNER each", x.meets(), -1);
        walk(x, 2, 50, 0, 1, 2);
        CHECK.due("of one CORNER, and of two", x.meets(), -1);
        walk(x, 3, 50, 0, 1, 0);
        CHECK.due("of two each", x.meets(), 203);
        x.goes(1, 0);
        CHECK.due("gone on", x.meets(), 102);
    }

    private static void meetingFirst() {
        CHECK.says("the first minute at which they MEET; NONE: they don't");
        SaintsRoad x = star();
        // They MEET in the STREET at 105, at CORNER 0 at 110 and at CORNER 2 at 120.
        walk(x, 0, 100, 20, 1, 0, 2);
        walk(x, 1, 105, 20, 0, 1, 0, 2);
        meeting("in the STREET first", x, 105);
        walk(x, 1, 121, 0, 0, 2);
        meeting("at the first CORNER first", x, 121);
        walk(x, 1, 131, 0, 0, 2);
        meeting("behind it at both CORNERS", x, -1);
        walk(x, 1, 130, 0, 0, 2);
        meeting("at the first CORNER's last minute", x, 130);
        walk(x, 1, 140, 0, 2);
        x.street(2, 4, 5);
        CHECK.due("on to CORNER 4", x.goes(1, 4), 2);
        meeting("at the second CORNER's last minute", x, 140);
        walk(x, 1, 0, 30, 0, 1);
        meeting("long ahead", x, -1);
        walk(x, 0, 1440, 30, 1, 0);
        walk(x, 1, 1440, 30, 2, 0);
        meeting("beyond the day", x, 1450);
        walk(x, 0, 0, 0, 1, 0);
        walk(x, 1, 0, 0, 1, 0);
        meeting("at minute 0", x, 0);
        // What 0 was, on from CORNER 0 to CORNER 2, is gone.
        walk(x, 0, 100, 0, 1, 0, 2);
        walk(x, 1, 115, 0, 2, 0);
        meeting("on its way", x, 115);
        walk(x, 0, 100, 0, 1, 0);
        meeting("not on the way that it went", x, -1);
        CHECK.due("nor is it hindered there", x.timed(1, 115), 115);
        CHECK.due("nor does it hinder there", x.timed(0, 100), 100);
    }

    private static void longestWays() {
        CHECK.says("each with 2 .. 12 CORNERS");
        SaintsRoad x = row();
        // 0 comes to CORNER 11 at 66, where 1 begins: each to the other's first CORNER.
        walk(x, 0, 0, 0, 0, 1, 2, 3, 4, 5, 6, 7, 8, 9, 10, 11);
        walk(x, 1, 66, 0, 11, 10, 9, 8, 7, 6, 5, 4, 3, 2, 1, 0);
        meeting("at the twelfth CORNER", x, 66);
        CHECK.due("timed behind it", x.timed(1, 60), 67);
        x.late(1, 1);
        meeting("a minute later", x, -1);
        walk(x, 1, 10, 0, 11, 12);
        CHECK.due("timed at its twelfth CORNER alone", x.timed(1, 66), 67);
        CHECK.due("the other, timed at its twelfth CORNER", x.timed(0, 0), 0);
        walk(x, 1, 66, 0, 11, 12);
        CHECK.due("the other, put off", x.timed(0, 0), 1);
    }

    private static void meetingRefused() {
        CHECK.says("Of two PROCESSIONS (unlike ones, of 2 CORNERS or more each)");
        CHECK.says("NONE: they don't; RANGE: no such");
        SaintsRoad x = row();
        for (int k = 0; k < 12; k++) {
            walk(x, k, 100 * k, 0, 0, 1);
        }
        CHECK.bounds("the one", 0, 11, -2, a -> x.meeting(a, 5));
        CHECK.bounds("the other", 0, 11, -2, b -> x.meeting(5, b));
        for (int k = 0; k < 12; k++) {
            CHECK.due("the same", x.meeting(k, k), -2);
        }
        x.begin(5, 0, 0, 0);
        CHECK.due("the one of one CORNER", x.meeting(5, 0), -2);
        CHECK.due("the other of one CORNER", x.meeting(0, 5), -2);
        x.goes(5, 1);
        CHECK.due("of two CORNERS", x.meeting(5, 0), 0);
        SaintsRoad y = row();
        walk(y, 0, 0, 0, 0, 1);
        CHECK.due("the other not begun", y.meeting(0, 1), -2);
        CHECK.due("the one not begun", y.meeting(1, 0), -2);
        CHECK.due("both not begun", y.meeting(2, 3), -2);
    }

    /** What timed() must answer, by putting PROCESSION 1 there minute by minute. */
    private static int slowTimed(int from, int tail) {
        for (int minute = from; minute <= 1440; minute++) {
            SaintsRoad x = timedTown(minute, tail);
            if (x.meeting(0, 1) < 0 && x.meeting(2, 1) < 0) {
                return minute;
            }
        }
        return -1;
    }

    /** 1 comes against 0 and 2, which leave a gap between them. */
    private static SaintsRoad timedTown(int minute, int tail) {
        SaintsRoad x = row();
        walk(x, 0, 100, 2, 0, 1, 2);
        walk(x, 2, 120, 0, 2, 3);
        walk(x, 1, minute, tail, 3, 2, 1, 0);
        return x;
    }

    private static void timedFirst() {
        CHECK.says("The first minute, from one on up to 1440");
        for (int tail : new int[] {0, 3, 30}) {
            for (int from = 60; from < 130; from += 1) {
                CHECK.due("tail " + tail + ", from " + from, timedTown(50, tail).timed(1, from), slowTimed(from, tail));
            }
        }
        // 0 is at CORNER 0 at 110: 1 must not come there then, so it must not begin at 100.
        SaintsRoad x = star();
        walk(x, 0, 100, 0, 1, 0);
        walk(x, 1, 0, 0, 2, 0);
        CHECK.due("from the minute ahead", x.timed(1, 99), 99);
        CHECK.due("from that minute", x.timed(1, 100), 101);
        CHECK.due("from the minute behind", x.timed(1, 101), 101);
        CHECK.due("from 0", x.timed(1, 0), 0);
        walk(x, 2, 102, 0, 3, 0);
        CHECK.due("between two", x.timed(1, 100), 101);
        CHECK.due("behind both", x.timed(1, 102), 103);
        walk(x, 3, 101, 0, 3, 0);
        CHECK.due("behind three in a row", x.timed(1, 100), 103);
        // 1 begins at the CORNER to which 0 comes at 110.
        x = star();
        walk(x, 0, 100, 2, 1, 0);
        walk(x, 1, 0, 4, 0, 2);
        CHECK.due("gone ahead of it", x.timed(1, 105), 105);
        CHECK.due("behind its tail", x.timed(1, 106), 113);
        walk(x, 1, 0, 4, 0, 1);
        CHECK.due("against it", x.timed(1, 86), 113);
    }

    private static void timedUpTo1440() {
        CHECK.says("from one on up to 1440, at which PROCESSION k");
        SaintsRoad x = star();
        walk(x, 1, 0, 0, 2, 0);
        CHECK.due("alone at the last", x.timed(1, 1440), 1440);
        walk(x, 0, 1439, 0, 1, 0);
        CHECK.due("free at 1440", x.timed(1, 1439), 1440);
        CHECK.due("free at 1438", x.timed(1, 1438), 1438);
        x.late(0, 1);
        CHECK.due("not free at 1440", x.timed(1, 1440), -1);
        CHECK.due("free at 1439", x.timed(1, 1439), 1439);
        walk(x, 2, 1439, 0, 3, 0);
        CHECK.due("not free from 1439 on", x.timed(1, 1439), -1);
        walk(x, 2, 0, 30, 3, 0);
        CHECK.due("not free from 0 to 30", x.timed(1, 0), 31);
        // One that began ahead of the day's first minute would have left: there is none such.
        walk(x, 2, 0, 9, 0, 3);
        CHECK.due("gone as it comes", x.timed(1, 0), 0);
        walk(x, 2, 0, 10, 0, 3);
        CHECK.due("there as it comes", x.timed(1, 0), 1);
    }

    private static void timedBegunThen() {
        CHECK.says("at which PROCESSION k (of 2 CORNERS or more), begun then, would MEET");
        for (int now : new int[] {0, 100, 105, 700, 1440}) {
            SaintsRoad x = star();
            walk(x, 0, 100, 5, 1, 0);
            walk(x, 1, now, 3, 2, 0);
            CHECK.due("whenever it begins now: " + now, x.timed(1, 97), 106);
            CHECK.due("ahead of it: " + now, x.timed(1, 96), 96);
            CHECK.due("later than now: " + now, x.timed(1, 1000), 1000);
        }
    }

    private static void timedOthers() {
        CHECK.says("would MEET none of the others; NONE");
        SaintsRoad x = star();
        walk(x, 1, 100, 30, 2, 0);
        CHECK.due("not itself", x.timed(1, 100), 100);
        walk(x, 0, 110, 30, 0);
        CHECK.due("one of one CORNER isn't in the way", x.timed(1, 100), 100);
        x.goes(0, 1);
        CHECK.due("it is when it goes on", x.timed(1, 100), 131);
        walk(x, 0, 110, 0, 3, 0);
        walk(x, 2, 110, 0, 3, 0);
        CHECK.due("two that MEET each other", x.timed(1, 100), 111);
        walk(x, 0, 1440, 30, 3, 0);
        CHECK.due("none", x.timed(1, 1410), -1);
        CHECK.due("ahead of that", x.timed(1, 1409), 1409);
    }

    private static void timedRefused() {
        CHECK.says("RANGE: no such, minute");
        SaintsRoad x = row();
        for (int k = 0; k < 12; k++) {
            CHECK.due("not begun", x.timed(k, 0), -2);
        }
        for (int k = 0; k < 12; k++) {
            x.begin(k, 0, 100 * k, 0);
            CHECK.due("of one CORNER", x.timed(k, 0), -2);
            x.goes(k, 1);
            CHECK.due("of two", x.timed(k, 1440), 1440);
        }
        CHECK.bounds("PROCESSION", 0, 11, -2, k -> x.timed(k, 0));
        CHECK.bounds("minute", 0, 1440, -2, minute -> x.timed(0, minute));
    }

    private static void timedChangesNothing() {
        CHECK.says("(Nothing changes.)");
        SaintsRoad x = star();
        walk(x, 0, 100, 5, 1, 0);
        walk(x, 1, 100, 5, 2, 0);
        CHECK.due("timed", x.timed(1, 100), 106);
        CHECK.due("its beginning", x.procession(1, 1), 100);
        CHECK.due("its tail", x.procession(1, 2), 115);
        CHECK.due("they MEET still", x.meeting(0, 1), 110);
        CHECK.due("the other's beginning", x.procession(0, 1), 100);
        CHECK.due("timed again", x.timed(1, 100), 106);
        CHECK.due("the other's turn", x.timed(0, 100), 106);
    }

    private static void countTold() {
        CHECK.says("What 0: bytes of THE TAPE, 1: STREETS, 2: QUARRELS, 3: PROCESSIONS that were begun; 10 + p: FEASTS of "
            + "PLACE p");
        SaintsRoad x = row();
        CHECK.due("STREETS", x.count(1), 19);
        CHECK.due("no PROCESSIONS", x.count(3), 0);
        x.begin(0, 0, 0, 0);
        x.begin(5, 0, 0, 0);
        x.begin(5, 1, 0, 0);
        x.goes(5, 2);
        CHECK.due("PROCESSIONS", x.count(3), 2);
        for (int k = 0; k < 12; k++) {
            x.begin(k, k, 0, 0);
        }
        CHECK.due("all PROCESSIONS", x.count(3), 12);
        x.quarrel(1, 2, true);
        CHECK.due("QUARRELS", x.count(2), 1);
        Check.write(x, "fixed 1 1 rank 1 a;");
        CHECK.due("bytes", x.count(0), 19);
        x.calendar(1);
        CHECK.due("bytes read", x.count(0), 0);
        CHECK.due("FEASTS of 1", x.count(11), 1);
        CHECK.due("FEASTS of 0", x.count(10), 0);
        Check.tell(x, 3, Check.daily(7, 1));
        CHECK.due("FEASTS of 3", x.count(13), 7);
    }

    private static void countRefused() {
        CHECK.says("FEASTS of PLACE p. NONE for others");
        SaintsRoad x = new SaintsRoad();
        CHECK.bounds("what", 0, 3, -1, x::count);
        CHECK.bounds("10 + p", 10, 13, -1, x::count);
        for (int what = 4; what <= 9; what++) {
            CHECK.due("count(" + what + ")", x.count(what), -1);
        }
        CHECK.due("far below", x.count(Integer.MIN_VALUE + 10), -1);
    }
}
