import java.util.ArrayList;
import java.util.List;
import java.util.function.ToIntFunction;

/** Promise 1, the constants, 512 calls, and that a refused call leaves everything as it was. */
public final class ObjectTest {
    private static final Check CHECK = new Check();

    public static void main(String[] args) {
        constants();
        newObject();
        manyCalls();
        objectsApart();
        refusedCalls();
        faultyCalendar();
        questions();
        CHECK.finish();
    }

    private static void constants() {
        CHECK.says("`NONE = -1`: There is none.");
        CHECK.due("NONE", SaintsRoad.NONE, -1);
        CHECK.says("`RANGE = -2`: A number that can't be.");
        CHECK.due("RANGE", SaintsRoad.RANGE, -2);
        CHECK.says("`FULL = -3`: No room.");
        CHECK.due("FULL", SaintsRoad.FULL, -3);
    }

    private static void newObject() {
        CHECK.says("Empty CALENDARS, no QUARRELS, no STREETS.");
        SaintsRoad x = new SaintsRoad();
        for (int what = 0; what <= 3; what++) {
            CHECK.due("count(" + what + ")", x.count(what), 0);
        }
        for (int p = 0; p < 4; p++) {
            CHECK.due("FEASTS of " + p, x.count(10 + p), 0);
            CHECK.due("feast of " + p, x.feast(p, 0, 0), -1);
            CHECK.due("own of " + p, x.own(p, 1, 0), -2);
            CHECK.due("held of " + p, x.held(p, 1, 0), -2);
            CHECK.due("FERIA of " + p, x.office(p, 1, 0), -10);
            CHECK.due("SUNDAY of " + p, x.office(p, 1, 1), -11);
            CHECK.due("fast of " + p, x.fast(p, 1, 80), 0);
            CHECK.due("wax of " + p, x.wax(p, 1, 0, 364), 0);
            CHECK.due("next of " + p, x.next(p, 1, 0, 8), -1);
            CHECK.due("unlike of " + p, x.unlike(p, 0, 1), 0);
        }
        CHECK.due("fault(0)", x.fault(0), 0);
        CHECK.due("fault(1)", x.fault(1), -1);
        CHECK.due("meets", x.meets(), -1);
        CHECK.due("turn", x.turn(0, 0), -1);
        for (int b = 0; b < 10; b++) {
            CHECK.due("carried", x.carried(b), 0);
            CHECK.due("no QUARREL", x.quarrel(b, (b + 1) % 10, false), 0);
        }
        for (int k = 0; k < 12; k++) {
            CHECK.due("procession", x.procession(k, 0), -1);
            CHECK.due("goes", x.goes(k, 0), -2);
        }
        for (int a = 0; a < 20; a++) {
            CHECK.due("no STREET", x.street(a, (a + 1) % 20, 0), 0);
        }
        CHECK.due("an empty TAPE", x.end(1), -1);
    }

    private static void manyCalls() {
        CHECK.says("An object is used for at most 512 calls after it has been made");
        SaintsRoad x = new SaintsRoad();
        for (int call = 1; call <= 200; call++) {
            CHECK.due("call " + call, x.feed(0x20202020, 0x20202020, 0x20202020, 0x20202020, 0x20202020), 20 * call);
        }
        CHECK.due("call 201", x.calendar(0), 0);
        for (int call = 202; call <= 511; call++) {
            CHECK.due("call " + call, x.wax(call % 4, call, 0, 364), 0);
        }
        CHECK.due("call 512", x.easter(1066), 105);
    }

    private static void objectsApart() {
        CHECK.says("Nothing is promised beyond the answers and state changes described above");
        SaintsRoad y = new SaintsRoad();
        busy();
        CHECK.due("the TAPE of another", y.count(0), 0);
        CHECK.due("STREETS of another", y.count(1), 0);
        CHECK.due("QUARRELS of another", y.count(2), 0);
        CHECK.due("PROCESSIONS of another", y.count(3), 0);
        CHECK.due("FEASTS of another", y.count(10), 0);
        CHECK.due("turns of another", y.turn(0, 0), -1);
        CHECK.due("the FAULT of another", y.fault(0), 0);
        List<Integer> first = answers(busy());
        CHECK.that("the same calls, the same answers", first.equals(answers(busy())));
    }

    /** An object with something of everything: each of its limits that a call can hit is hit. */
    private static SaintsRoad busy() {
        SaintsRoad x = Check.with("fixed 1 1 rank 1 a octave vigil; moved 1 rank 2 b; fixed 12 31 rank 3 c octave vigil;"
            + "fixed 12 31 rank 4 d; sunday 5 3 rank 8 e; yield 8 30; wax 1 9999; wax 8 1; lent 90;");
        Check.tell(x, 1, "fixed 1 1 rank 1 a; fixed 5 5 rank 5 f from 50;");
        for (int a = 0; a < 12; a++) {
            x.street(a, a + 1, a + 10);
        }
        x.begin(0, 0, 1440, 30);
        for (int i = 1; i < 12; i++) {
            x.goes(0, i);
        }
        x.begin(1, 3, 1430, 30);
        x.goes(1, 2);
        x.begin(2, 5, 10, 0);
        x.quarrel(0, 1, true);
        x.quarrel(8, 9, true);
        x.rota(0, 4, 6, 8, 7);
        Check.tell(x, 2, "lent 5; yield 9 1;");
        Check.write(x, "fixed 7 7 rank 7 seven;");
        return x;
    }

    /** What an object answers; THE TAPE is read and the STREETS are taken away at the end of it. */
    private static List<Integer> answers(SaintsRoad x) {
        List<Integer> all = new ArrayList<>();
        for (int what : new int[] {0, 1, 2, 3, 10, 11, 12, 13}) {
            all.add(x.count(what));
        }
        all.add(x.fault(0));
        all.add(x.fault(1));
        for (int f = 0; f < 5; f++) {
            all.add(x.held(0, 4, f));
            all.add(x.held(0, 5, f));
            all.add(x.feast(0, f, 1));
            all.add(x.feast(1, f, 4));
        }
        all.add(x.wax(0, 5, 0, 364));
        all.add(x.fast(0, 5, 50));
        all.add(x.unlike(0, 1, 50));
        for (int k = 0; k < 20; k++) {
            all.add(x.turn(k, 1));
            all.add(x.turn(k, 3));
        }
        for (int b = 0; b < 10; b++) {
            all.add(x.carried(b));
            all.add(x.quarrel(b, (b + 1) % 10, false));
        }
        for (int k = 0; k < 12; k++) {
            all.add(x.procession(k, 0));
            all.add(x.procession(k, 1));
            all.add(x.procession(k, 2));
            all.add(x.procession(k, 11));
            all.add(x.procession(k, 41));
        }
        all.add(x.meets());
        all.add(x.meeting(0, 1));
        all.add(x.timed(1, 1400));
        all.add(x.calendar(3));
        all.add(x.feast(3, 0, 14));
        for (int a = 0; a < 20; a++) {
            all.add(x.street(a, (a + 1) % 20, 0));
        }
        return all;
    }

    private static void refused(String call, int answer, ToIntFunction<SaintsRoad> made) {
        SaintsRoad x = busy();
        CHECK.due(call, made.applyAsInt(x), answer);
        List<Integer> got = answers(x);
        List<Integer> due = answers(busy());
        CHECK.that(call + " changes nothing: " + got + " is " + due, got.equals(due));
    }

    private static void refusedCalls() {
        CHECK.says("RANGE: no such PLACE; NONE with a FAULT");
        refused("end(24)", -1, x -> x.end(24));
        refused("end(-1)", -1, x -> x.end(-1));
        refused("calendar(4)", -2, x -> x.calendar(4));
        refused("calendar(-1)", -2, x -> x.calendar(-1));
        CHECK.says("RANGE: no such, or the same");
        refused("quarrel(0, 10)", -2, x -> x.quarrel(0, 10, true));
        refused("quarrel(-1, 0)", -2, x -> x.quarrel(-1, 0, true));
        refused("quarrel(8, 8)", -2, x -> x.quarrel(8, 8, true));
        refused("quarrel there already", 0, x -> x.quarrel(0, 1, true));
        refused("quarrel not there", 0, x -> x.quarrel(0, 2, false));
        CHECK.says("RANGE: no such PLACE, YEARS (from above to, or more than 20 of them), r 1 .. 8, set (1 .. 1023)");
        refused("rota of PLACE 4", -2, x -> x.rota(4, 5, 5, 8, 3));
        refused("rota of YEAR 0", -2, x -> x.rota(0, 0, 5, 8, 3));
        refused("rota to 2001", -2, x -> x.rota(0, 2000, 2001, 8, 3));
        refused("rota, from above to", -2, x -> x.rota(0, 6, 5, 8, 3));
        refused("rota of 21 YEARS", -2, x -> x.rota(0, 5, 25, 8, 3));
        refused("rota of r 9", -2, x -> x.rota(0, 5, 5, 9, 3));
        refused("rota of r 0", -2, x -> x.rota(0, 5, 5, 0, 3));
        refused("rota of set 0", -2, x -> x.rota(0, 5, 5, 8, 0));
        refused("rota of set 1024", -2, x -> x.rota(0, 5, 5, 8, 1024));
        CHECK.says("RANGE: no such CORNERS, the same, minutes 0 .. 60");
        refused("street to 20", -2, x -> x.street(0, 20, 5));
        refused("street from -1", -2, x -> x.street(-1, 0, 5));
        refused("street to itself", -2, x -> x.street(3, 3, 5));
        refused("street of 61", -2, x -> x.street(0, 1, 61));
        refused("street of -1", -2, x -> x.street(0, 1, -1));
        refused("street as it is", 10, x -> x.street(0, 1, 10));
        CHECK.says("RANGE: no such, minute 0 .. 1440, tail 0 .. 30");
        refused("begin 12", -2, x -> x.begin(12, 0, 0, 0));
        refused("begin at 20", -2, x -> x.begin(0, 20, 0, 0));
        refused("begin at 1441", -2, x -> x.begin(0, 0, 1441, 0));
        refused("begin with 31", -2, x -> x.begin(3, 0, 0, 31));
        CHECK.says("NONE: no STREET; FULL: the 13th");
        refused("goes of 3", -2, x -> x.goes(3, 1));
        refused("goes to 20", -2, x -> x.goes(2, 20));
        refused("goes to itself", -1, x -> x.goes(2, 5));
        refused("goes far", -1, x -> x.goes(2, 9));
        refused("goes to a 13th", -3, x -> x.goes(0, 12));
        CHECK.says("RANGE, also if that were above 1440");
        refused("late of 3", -2, x -> x.late(3, 1));
        refused("late by 0", -2, x -> x.late(2, 0));
        refused("late by 301", -2, x -> x.late(2, 301));
        refused("late beyond 1440", -2, x -> x.late(1, 11));
    }

    private static void faultyCalendar() {
        CHECK.says("NONE with a FAULT");
        SaintsRoad x = busy();
        Check.write(x, "fixed 8 8 rank 9 eight;");
        CHECK.due("calendar", x.calendar(0), -1);
        Check.tell(x, 2, "lent 5; yield 9 1;");
        Check.write(x, "fixed 7 7 rank 7 seven;");
        CHECK.that("all but THE TAPE and the FAULT is as it was", answers(x).equals(answers(busy())));
    }

    /** Calls that only ask, with answers of all kinds: nothing changes by them. */
    private static void questions() {
        CHECK.says("(Nothing changes.)");
        refused("fault", 3, x -> x.fault(0));
        refused("feast", 97, x -> x.feast(0, 0, 10));
        refused("easter", 105, x -> x.easter(1066));
        refused("date", 1, x -> x.date(5, 0, 0));
        refused("office", -20, x -> x.office(0, 2000, 1));
        refused("held", -1, x -> x.held(0, 1999, 3));
        refused("own", 364, x -> x.own(0, 1999, 3));
        refused("fast", 1, x -> x.fast(0, 1999, 0));
        refused("next", 1999000, x -> x.next(0, 1999, 0, 1));
        refused("unlike", -2, x -> x.unlike(0, 4, 5));
        refused("turn", -1, x -> x.turn(600, 0));
        refused("carried", -2, x -> x.carried(10));
        refused("procession", -1, x -> x.procession(3, 0));
        refused("meets", 1, SaintsRoad::meets);
        refused("meeting of 0 and 1", 1461, x -> x.meeting(0, 1));
        refused("meeting", -2, x -> x.meeting(0, 2));
        refused("timed", -2, x -> x.timed(2, 0));
        refused("timed 1", 0, x -> x.timed(1, 0));
        refused("count", -1, x -> x.count(14));
    }
}
