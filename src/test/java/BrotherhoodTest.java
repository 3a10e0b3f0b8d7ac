/** Promises 16 to 19: quarrel, rota, turn, carried. */
public final class BrotherhoodTest {
    private static final Check CHECK = new Check();

    public static void main(String[] args) {
        quarrels();
        fairTurns();
        quarrelsKeptApart();
        overYears();
        manyTurns();
        wrongRotas();
        CHECK.finish();
    }

    private static void quarrels() {
        SaintsRoad x = new SaintsRoad();
        CHECK.due("none to end", x.quarrel(0, 9, false), 0);
        CHECK.due("a first one", x.quarrel(0, 9, true), 1);
        CHECK.due("there already", x.quarrel(9, 0, true), 0);
        CHECK.due("another", x.quarrel(3, 9, true), 1);
        CHECK.due("two", x.count(2), 2);
        CHECK.due("ended from the other side", x.quarrel(9, 0, false), 1);
        CHECK.due("one", x.count(2), 1);
        CHECK.due("ended already", x.quarrel(0, 9, false), 0);
        int[][] wrong = {{0, 0}, {-1, 0}, {0, -1}, {10, 0}, {0, 10}, {Integer.MAX_VALUE, Integer.MIN_VALUE}};
        for (int[] w : wrong) {
            CHECK.due("quarrel " + w[0] + " " + w[1], x.quarrel(w[0], w[1], true), -2);
        }
        CHECK.due("still one", x.count(2), 1);
    }

    /** Five FEASTS ten days from each other, on days 0, 10, .. 40. */
    private static SaintsRoad five() {
        return Check.with("fixed 1 1 rank 1 a; fixed 1 11 rank 2 b; fixed 1 21 rank 3 c; fixed 1 31 rank 1 d;"
            + " fixed 2 10 rank 2 e;");
    }

    private static void carriers(String what, SaintsRoad x, int... who) {
        for (int k = 0; k < who.length; k++) {
            CHECK.due(what + ": turn " + k, x.turn(k, 3), who[k]);
        }
        CHECK.due(what + ": no more", x.turn(who.length, 3), -1);
        for (int b = 0; b < 10; b++) {
            int sum = 0;
            for (int one : who) {
                sum += one == b ? 1 : 0;
            }
            CHECK.due(what + ": carried " + b, x.carried(b), sum);
        }
    }

    private static void fairTurns() {
        SaintsRoad x = five();
        CHECK.due("all five", x.rota(0, 5, 5, 8, 0b10_0001_0010), 5);
        carriers("three", x, 1, 4, 9, 1, 4);
        for (int k = 0; k < 5; k++) {
            CHECK.due("YEAR", x.turn(k, 0), 5);
            CHECK.due("day", x.turn(k, 1), 10 * k);
            CHECK.due("FEAST", x.turn(k, 2), k);
        }
        CHECK.due("turn(-1)", x.turn(-1, 0), -1);
        CHECK.due("turn(5)", x.turn(5, 0), -1);
        CHECK.due("what 4", x.turn(0, 4), -1);
        CHECK.due("what -1", x.turn(0, -1), -1);
        CHECK.due("R to 2", x.rota(0, 5, 5, 2, 3), 4);
        carriers("two", x, 0, 1, 0, 1);
        CHECK.due("its third FEAST", x.turn(2, 2), 3);
        CHECK.due("one alone", x.rota(0, 5, 6, 1, 512), 4);
        carriers("one", x, 9, 9, 9, 9);
        CHECK.due("an empty PLACE", x.rota(1, 5, 5, 8, 3), 0);
        carriers("none", x);
        CHECK.due("carried(10)", x.carried(10), -2);
        CHECK.due("carried(-1)", x.carried(-1), -2);
    }

    private static void quarrelsKeptApart() {
        // Days 0, 7, 15, 16, 17: seven days from one are near still, eight are not.
        SaintsRoad x = Check.with("fixed 1 1 rank 1 a; fixed 1 8 rank 1 b; fixed 1 16 rank 1 c; fixed 1 17 rank 1 d;"
            + " fixed 1 18 rank 1 e;");
        x.quarrel(0, 1, true);
        x.rota(0, 5, 5, 8, 3);
        carriers("two that quarrel", x, 0, 0, 1, 1, 1);
        x.rota(0, 5, 5, 8, 7);
        carriers("a third one", x, 0, 2, 1, 2, 0);
        x.quarrel(2, 0, true);
        x.rota(0, 5, 5, 8, 7);
        carriers("one with both", x, 0, 0, 1, 2, 1);
        x.quarrel(1, 2, true);
        x.rota(0, 5, 5, 8, 7);
        carriers("all with all", x, 0, 0, 1, 1, 1);
        x.quarrel(0, 1, false);
        x.quarrel(0, 2, false);
        x.quarrel(1, 2, false);
        x.rota(0, 5, 5, 8, 7);
        carriers("peace", x, 0, 1, 2, 0, 1);
        // After 0 0 2: of those that carried least (1, 2) the one that hasn't is first.
        x.quarrel(0, 1, true);
        x.rota(0, 5, 5, 8, 3);
        carriers("those that carried least", x, 0, 0, 1, 1, 1);
    }

    private static void overYears() {
        SaintsRoad x = Check.with("fixed 12 28 rank 1 a; fixed 1 3 rank 1 b; fixed 1 2 rank 1 c from 7;");
        x.quarrel(0, 1, true);
        CHECK.due("two YEARS", x.rota(0, 5, 6, 8, 3), 4);
        // 2 January, 27 December, 2 January (6 days), 27 December.
        carriers("over the end of a YEAR", x, 0, 1, 1, 0);
        CHECK.due("YEAR of the third", x.turn(2, 0), 6);
        CHECK.due("20 YEARS", x.rota(0, 10, 29, 8, 3), 60);
        int before = x.turn(0, 0);
        CHECK.due("21 YEARS", x.rota(0, 10, 30, 8, 3), -2);
        CHECK.due("RANGE leaves the turns", x.turn(0, 0), before);
        CHECK.due("the last YEARS", x.rota(0, 1981, 2000, 8, 1), 60);
        Check.tell(x, 0, "");
        CHECK.due("turns are kept", x.turn(59, 0), 2000);
        CHECK.due("the FEAST too", x.turn(59, 2), 0);
    }

    private static void manyTurns() {
        StringBuilder text = new StringBuilder();
        for (int f = 0; f < 60; f++) {
            text.append("fixed ").append(1 + f / 20).append(' ').append(1 + f % 20).append(" rank 1 ")
                .append((char) ('a' + f / 26)).append((char) ('a' + f % 26)).append(';');
        }
        SaintsRoad x = Check.with(text.toString());
        CHECK.due("1200 FEASTS", x.rota(0, 1, 20, 8, 1023), 1200);
        CHECK.due("turn(599)", x.turn(599, 0), 10);
        CHECK.due("turn(599, 2)", x.turn(599, 2), 59);
        CHECK.due("turn(600)", x.turn(600, 0), -1);
        CHECK.due("turn(1199)", x.turn(1199, 3), -1);
        for (int b = 0; b < 10; b++) {
            CHECK.due("all are counted", x.carried(b), 120);
        }
    }

    private static void wrongRotas() {
        SaintsRoad x = five();
        int[][] wrong = {{-1, 5, 5, 8, 3}, {4, 5, 5, 8, 3}, {0, 0, 5, 8, 3}, {0, 1999, 2001, 8, 3}, {0, 6, 5, 8, 3},
            {0, 5, 5, 0, 3}, {0, 5, 5, 9, 3}, {0, 5, 5, 8, 0}, {0, 5, 5, 8, 1024}, {0, 5, 5, 8, -1},
            {0, Integer.MIN_VALUE, Integer.MAX_VALUE, 8, 3}};
        for (int[] w : wrong) {
            CHECK.due("rota " + java.util.Arrays.toString(w), x.rota(w[0], w[1], w[2], w[3], w[4]), -2);
        }
    }
}
