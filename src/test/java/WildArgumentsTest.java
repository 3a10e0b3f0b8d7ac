import java.util.Random;

/** No call may throw, whatever it is given: wild arguments in all states that a run comes to. */
public final class WildArgumentsTest {
    private static final int[] EDGES = {Integer.MIN_VALUE, Integer.MIN_VALUE + 1, -2000, -21, -20, -11, -10, -2, -1, 0,
        1, 2, 3, 4, 5, 8, 9, 10, 11, 12, 13, 19, 20, 21, 22, 30, 31, 41, 42, 60, 61, 300, 301, 364, 365, 366, 599, 600,
        1023, 1024, 1440, 1441, 1999, 2000, 2001, 3999, 4000, 4001, Integer.MAX_VALUE - 1, Integer.MAX_VALUE};

    private final Random chance = new Random(42);
    private final Check check = new Check();

    public static void main(String[] args) {
        WildArgumentsTest test = new WildArgumentsTest();
        for (int run = 0; run < 1000; run++) {
            test.oneRun(run);
        }
        test.check.finish();
    }

    private void oneRun(int run) {
        SaintsRoad x = new SaintsRoad();
        if (run % 2 == 0) {
            fill(x);
        }
        int call = -1;
        try {
            for (int i = 0; i < 400; i++) {
                call = chance.nextInt(28);
                callOne(x, call);
            }
            check.that("run " + run, true);
        } catch (RuntimeException e) {
            check.that("run " + run + ", call kind " + call + ": " + e, false);
        }
    }

    private void fill(SaintsRoad x) {
        Check.tell(x, 0, "fixed 1 1 rank 1 a octave vigil; moved -90 rank 2 b; fixed 12 31 rank 3 c octave vigil;"
            + "fixed 12 31 rank 4 d; sunday 5 2 rank 8 e; yield 8 30; wax 1 9999; wax 8 1; lent 90;");
        x.street(0, 1, 60);
        for (int k = 0; k < 12; k++) {
            x.begin(k, 0, 120 * k, k);
            for (int i = 1; i < 12; i++) {
                x.goes(k, i % 2);
            }
        }
        x.rota(0, 1, 20, 8, 1023);
    }

    private int wild() {
        int dice = chance.nextInt(4);
        return dice == 0 ? chance.nextInt() : dice == 1 ? chance.nextInt(24) : EDGES[chance.nextInt(EDGES.length)];
    }

    private int callOne(SaintsRoad x, int call) {
        int a = wild();
        int b = wild();
        int c = wild();
        int d = wild();
        int e = wild();
        switch (call) {
            case 0: return x.feed(a, b, c, d, e);
            case 1: return x.end(a);
            case 2: return x.calendar(a);
            case 3: return x.fault(a);
            case 4: return x.feast(a, b, c);
            case 5: return x.easter(a);
            case 6: return x.date(a, b, c);
            case 7: return x.office(a, b, c);
            case 8: return x.held(a, b, c);
            case 9: return x.own(a, b, c);
            case 10: return x.fast(a, b, c);
            case 11: return x.wax(a, b, c, d);
            case 12: return x.next(a, b, c, d);
            case 13: return x.unlike(a, b, c);
            case 14: return x.quarrel(a, b, c > 0);
            case 15: return x.rota(a, b, c, d, e);
            case 16: return x.turn(a, b);
            case 17: return x.carried(a);
            case 18: return x.street(a, b, c);
            case 19: return x.begin(a, b, c, d);
            case 20: return x.goes(a, b);
            case 21: return x.late(a, b);
            case 22: return x.procession(a, b);
            case 23: return x.meets();
            case 24: return x.meeting(a, b);
            case 25: return x.timed(a, b);
            default: return x.count(a);
        }
    }
}
