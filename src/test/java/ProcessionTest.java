/** Promises 20 to 28: street, begin, goes, late, procession, meets, meeting, timed, count. */
public final class ProcessionTest {
    private static final Check CHECK = new Check();

    public static void main(String[] args) {
        streets();
        ways();
        lateOnes();
        meetingsAtCorners();
        meetingsInStreets();
        firstTwo();
        timedOnes();
        counts();
        CHECK.finish();
    }

    private static void streets() {
        SaintsRoad x = new SaintsRoad();
        CHECK.due("none there", x.street(0, 19, 0), 0);
        CHECK.due("a STREET", x.street(0, 19, 60), 0);
        CHECK.due("the same from the other end", x.street(19, 0, 1), 60);
        CHECK.due("one", x.count(1), 1);
        CHECK.due("another", x.street(18, 0, 1), 0);
        CHECK.due("two", x.count(1), 2);
        CHECK.due("none any more", x.street(0, 19, 0), 1);
        CHECK.due("one again", x.count(1), 1);
        int[][] wrong = {{-1, 0, 1}, {0, -1, 1}, {20, 0, 1}, {0, 20, 1}, {5, 5, 1}, {5, 5, 0}, {0, 1, -1}, {0, 1, 61}};
        for (int[] w : wrong) {
            CHECK.due("street " + java.util.Arrays.toString(w), x.street(w[0], w[1], w[2]), -2);
        }
        CHECK.due("still one", x.count(1), 1);
    }

    /** A town whose STREETS k to k + 1 have k + 1 minutes. */
    private static SaintsRoad row() {
        SaintsRoad x = new SaintsRoad();
        for (int k = 0; k < 19; k++) {
            x.street(k, k + 1, k + 1);
        }
        return x;
    }

    private static void walk(SaintsRoad x, int k, int minute, int tail, int... corners) {
        CHECK.due("begin " + k, x.begin(k, corners[0], minute, tail), 1);
        for (int i = 1; i < corners.length; i++) {
            CHECK.due("goes " + k + " to " + corners[i], x.goes(k, corners[i]), i + 1);
        }
    }

    private static void ways() {
        SaintsRoad x = row();
        CHECK.due("not begun", x.goes(11, 1), -2);
        CHECK.due("begin", x.begin(11, 0, 1440, 30), 1);
        CHECK.due("one CORNER", x.procession(11, 0), 1);
        CHECK.due("its tail has left", x.procession(11, 2), 1470);
        CHECK.due("no STREET to itself", x.goes(11, 0), -1);
        CHECK.due("no STREET", x.goes(11, 2), -1);
        CHECK.due("no CORNER 20", x.goes(11, 20), -2);
        CHECK.due("no CORNER -1", x.goes(11, -1), -2);
        CHECK.due("no PROCESSION 12", x.goes(12, 1), -2);
        CHECK.due("no PROCESSION -1", x.goes(-1, 1), -2);
        int minute = 1440;
        for (int i = 1; i < 12; i++) {
            minute += i;
            CHECK.due("goes on", x.goes(11, i), i + 1);
            CHECK.due("its head", x.procession(11, 30 + i), minute);
            CHECK.due("its tail", x.procession(11, 2), minute + 30);
            CHECK.due("its CORNER", x.procession(11, 10 + i), i);
            CHECK.due("no CORNER more", x.procession(11, 11 + i), -1);
            CHECK.due("no minute more", x.procession(11, 31 + i), -1);
        }
        CHECK.due("the 13th", x.goes(11, 12), -3);
        CHECK.due("the 13th, back", x.goes(11, 10), -3);
        CHECK.due("no STREET to a 13th", x.goes(11, 15), -1);
        CHECK.due("twelve still", x.procession(11, 0), 12);
        CHECK.due("minutes are kept", x.street(0, 1, 60), 1);
        CHECK.due("minutes are kept", x.procession(11, 31), 1441);
        for (int what : new int[] {-1, 3, 9, 22, 29, 42, Integer.MAX_VALUE, Integer.MIN_VALUE}) {
            CHECK.due("procession what " + what, x.procession(11, what), -1);
        }
        CHECK.due("procession 12", x.procession(12, 0), -1);
        CHECK.due("procession -1", x.procession(-1, 0), -1);
        CHECK.due("anew", x.begin(11, 7, 5, 0), 1);
        CHECK.due("anew: CORNERS", x.procession(11, 0), 1);
        CHECK.due("anew: CORNER", x.procession(11, 10), 7);
        CHECK.due("anew: tail", x.procession(11, 2), 5);
        int[][] wrong = {{-1, 0, 0, 0}, {12, 0, 0, 0}, {0, -1, 0, 0}, {0, 20, 0, 0}, {0, 0, -1, 0}, {0, 0, 1441, 0},
            {0, 0, 0, -1}, {0, 0, 0, 31}};
        for (int[] w : wrong) {
            CHECK.due("begin " + java.util.Arrays.toString(w), x.begin(w[0], w[1], w[2], w[3]), -2);
        }
        CHECK.due("a wrong one begins none", x.procession(0, 0), -1);
        CHECK.due("nor undoes one", x.begin(11, 0, 0, 31), -2);
        CHECK.due("it is there", x.procession(11, 10), 7);
    }

    private static void lateOnes() {
        SaintsRoad x = row();
        CHECK.due("not begun", x.late(0, 5), -2);
        walk(x, 0, 1000, 2, 3, 4);
        CHECK.due("late 300", x.late(0, 300), 1300);
        CHECK.due("late 1", x.late(0, 1), 1301);
        CHECK.due("late 0", x.late(0, 0), -2);
        CHECK.due("late -1", x.late(0, -1), -2);
        CHECK.due("late 301", x.late(0, 301), -2);
        CHECK.due("late 140", x.late(0, 140), -2);
        CHECK.due("late 139", x.late(0, 139), 1440);
        CHECK.due("late 1 more", x.late(0, 1), -2);
        CHECK.due("most", x.late(0, Integer.MAX_VALUE), -2);
        CHECK.due("PROCESSION 12", x.late(12, 1), -2);
        CHECK.due("PROCESSION -1", x.late(-1, 1), -2);
        CHECK.due("beginning", x.procession(0, 1), 1440);
        CHECK.due("head", x.procession(0, 31), 1444);
        CHECK.due("tail", x.procession(0, 2), 1446);
    }

    private static void meetingsAtCorners() {
        SaintsRoad x = new SaintsRoad();
        x.street(0, 1, 10);
        x.street(2, 1, 10);
        x.street(3, 1, 10);
        walk(x, 0, 100, 5, 0, 1);
        walk(x, 1, 105, 0, 2, 1);
        CHECK.due("the end of its tail", x.meeting(0, 1), 115);
        CHECK.due("the other way", x.meeting(1, 0), 115);
        x.late(1, 1);
        CHECK.due("behind its tail", x.meeting(0, 1), -1);
        walk(x, 1, 90, 10, 2, 1);
        CHECK.due("its head at the other's tail", x.meeting(0, 1), 110);
        walk(x, 1, 90, 9, 2, 1);
        CHECK.due("ahead of it", x.meeting(0, 1), -1);
        walk(x, 1, 80, 0, 1, 2, 1, 3, 1);
        CHECK.due("at the second coming", x.meeting(0, 1), -1);
        walk(x, 1, 75, 0, 1, 2, 1, 3, 1);
        CHECK.due("at the third coming", x.meeting(0, 1), 115);
        walk(x, 1, 100, 0, 0, 1);
        CHECK.due("the same way at once", x.meeting(0, 1), 100);
        walk(x, 1, 106, 30, 0, 1);
        CHECK.due("the same way behind it in the STREET", x.meeting(0, 1), -1);
        int[][] wrong = {{0, 0}, {0, 2}, {2, 0}, {-1, 0}, {0, 12}, {12, 0}, {0, -1}};
        for (int[] w : wrong) {
            CHECK.due("meeting " + w[0] + " " + w[1], x.meeting(w[0], w[1]), -2);
        }
        walk(x, 2, 100, 0, 0);
        CHECK.due("of one CORNER", x.meeting(0, 2), -2);
        CHECK.due("the other of one CORNER", x.meeting(2, 0), -2);
    }

    private static void meetingsInStreets() {
        SaintsRoad x = new SaintsRoad();
        x.street(0, 1, 10);
        walk(x, 0, 100, 3, 0, 1);
        walk(x, 1, 105, 0, 1, 0);
        CHECK.due("face to face", x.meeting(0, 1), 105);
        walk(x, 1, 95, 0, 1, 0);
        CHECK.due("ahead of it", x.meeting(0, 1), 100);
        walk(x, 1, 113, 0, 1, 0);
        CHECK.due("at the end of its tail", x.meeting(0, 1), 113);
        walk(x, 1, 114, 0, 1, 0);
        CHECK.due("behind its tail", x.meeting(0, 1), -1);
        // One has kept the minutes of an earlier day: the STREET is the same.
        x.street(0, 1, 60);
        walk(x, 1, 20, 20, 1, 0);
        CHECK.due("with other minutes", x.meeting(0, 1), 100);
        walk(x, 1, 20, 19, 1, 0);
        CHECK.due("with other minutes, gone", x.meeting(0, 1), -1);
    }

    private static void firstTwo() {
        SaintsRoad x = row();
        walk(x, 11, 50, 0, 1, 0);
        walk(x, 4, 50, 0, 0, 1);
        CHECK.due("4 and 11", x.meets(), 411);
        walk(x, 10, 60, 0, 8, 9);
        walk(x, 3, 60, 0, 9, 8);
        CHECK.due("3 and 10 too", x.meets(), 310);
        walk(x, 4, 60, 0, 9, 10);
        CHECK.due("3 and 4 at a CORNER", x.meets(), 304);
        walk(x, 0, 60, 0, 9);
        CHECK.due("one CORNER doesn't count", x.meets(), 304);
        x.begin(3, 0, 0, 0);
        x.begin(10, 0, 0, 0);
        CHECK.due("none left", x.meets(), -1);
    }

    private static void timedOnes() {
        SaintsRoad x = row();
        walk(x, 0, 100, 2, 0, 1, 2);
        CHECK.due("alone", x.timed(0, 7), 7);
        CHECK.due("alone at the last", x.timed(0, 1440), 1440);
        walk(x, 1, 0, 0, 2, 1, 0);
        for (int minute = 90; minute < 110; minute++) {
            CHECK.due("timed from " + minute, x.timed(1, minute), slowTimed(x, minute));
        }
        CHECK.due("nothing changes", x.procession(1, 1), 0);
        walk(x, 2, 106, 0, 2);
        CHECK.due("one CORNER isn't in the way", x.timed(1, 106), 106);
        CHECK.due("of one CORNER", x.timed(2, 5), -2);
        CHECK.due("not begun", x.timed(3, 5), -2);
        CHECK.due("12", x.timed(12, 5), -2);
        CHECK.due("-1", x.timed(-1, 5), -2);
        CHECK.due("minute -1", x.timed(1, -1), -2);
        CHECK.due("minute 1441", x.timed(1, 1441), -2);
        // Twelve minutes a CORNER are kept by a tail to the end of the day.
        walk(x, 0, 1430, 30, 1, 0);
        walk(x, 1, 0, 30, 0, 1);
        CHECK.due("none up to 1440", x.timed(1, 1420), -1);
        CHECK.due("ahead of it", x.timed(1, 1300), 1300);
        CHECK.due("just ahead of it", x.timed(1, 1398), 1398);
        CHECK.due("too late", x.timed(1, 1399), -1);
    }

    private static int slowTimed(SaintsRoad x, int from) {
        for (int minute = from; minute <= 1440; minute++) {
            walk(x, 1, minute, 0, 2, 1, 0);
            boolean free = x.meeting(0, 1) < 0;
            walk(x, 1, 0, 0, 2, 1, 0);
            if (free) {
                return minute;
            }
        }
        return -1;
    }

    private static void counts() {
        SaintsRoad x = row();
        CHECK.due("STREETS", x.count(1), 19);
        x.begin(0, 0, 0, 0);
        x.begin(5, 0, 0, 0);
        x.begin(5, 1, 0, 0);
        x.goes(5, 2);
        CHECK.due("PROCESSIONS", x.count(3), 2);
        x.quarrel(1, 2, true);
        CHECK.due("QUARRELS", x.count(2), 1);
        Check.write(x, "fixed 1 1 rank 1 a;");
        CHECK.due("bytes", x.count(0), 19);
        x.calendar(1);
        CHECK.due("bytes read", x.count(0), 0);
        CHECK.due("FEASTS of 1", x.count(11), 1);
        CHECK.due("FEASTS of 0", x.count(10), 0);
        for (int what : new int[] {-1, 4, 9, 14, Integer.MAX_VALUE, Integer.MIN_VALUE}) {
            CHECK.due("count(" + what + ")", x.count(what), -1);
        }
    }
}
