import java.util.Arrays;

/** Term III, and promises 16 to 19: quarrel, rota, turn, carried. */
public final class BrotherhoodTest {
    private static final Check CHECK = new Check();
    private static final String[] MONTHS_FAR = {"1 1", "2 1", "3 1", "4 1", "5 1", "6 1", "7 1", "8 1"};

    public static void main(String[] args) {
        brotherhoods();
        yearsFromTo();
        carriedDayByDay();
        carriedLeast();
        longestAgo();
        leastNumber();
        quarrelsKeptApart();
        sevenDays();
        overYears();
        allOfTheSet();
        quarrelTold();
        quarrelRefused();
        rotaTold();
        rotaRefused();
        turnTold();
        turnRefused();
        turnsFromThe600th();
        carriedTold();
        CHECK.finish();
    }

    /** FEASTS of rank 1 on dates of a YEAR. */
    private static SaintsRoad on(String... dates) {
        StringBuilder text = new StringBuilder();
        for (int f = 0; f < dates.length; f++) {
            text.append("fixed ").append(dates[f]).append(" rank 1 n").append((char) ('a' + f)).append(';');
        }
        return Check.with(text.toString());
    }

    /** Who carries in YEAR 5, by turn() and by carried(). */
    private static void carriers(String what, SaintsRoad x, int set, int... who) {
        CHECK.due(what + ": rota", x.rota(0, 5, 5, 8, set), who.length);
        turns(what, x, who);
    }

    private static void turns(String what, SaintsRoad x, int... who) {
        for (int k = 0; k < who.length; k++) {
            CHECK.due(what + ": turn " + k, x.turn(k, 3), who[k]);
        }
        CHECK.due(what + ": no more", x.turn(who.length, 3), -1);
        for (int b = 0; b < 10; b++) {
            int one = b;
            CHECK.due(what + ": carried " + b, x.carried(b), (int) Arrays.stream(who).filter(w -> w == one).count());
        }
    }

    private static void brotherhoods() {
        CHECK.says("BROTHERHOODS 0 .. 9; QUARRELS between two of them");
        SaintsRoad x = on(MONTHS_FAR);
        CHECK.bounds("quarrel", 0, 9, -2, a -> x.quarrel(a, 5, true));
        CHECK.bounds("carried", 0, 9, -2, x::carried);
        carriers("the first", x, 1, 0, 0, 0, 0, 0, 0, 0, 0);
        carriers("the last", x, 512, 9, 9, 9, 9, 9, 9, 9, 9);
        carriers("all ten", x, 1023, 0, 1, 2, 3, 4, 5, 6, 7);
        carriers("the last four", x, 0b11_1100_0000, 6, 7, 8, 9, 6, 7, 8, 9);
    }

    private static void yearsFromTo() {
        CHECK.says("rota() of a set of them in a PLACE, years from .. to");
        SaintsRoad x = on("1 1", "12 31");
        for (int years = 1; years <= 20; years++) {
            CHECK.due(years + " YEARS", x.rota(0, 100, 99 + years, 8, 1), 2 * years);
            CHECK.due("from", x.turn(0, 0), 100);
            CHECK.due("its first day", x.turn(0, 1), 0);
            CHECK.due("to", x.turn(2 * years - 1, 0), 99 + years);
            CHECK.due("its last day", x.turn(2 * years - 1, 1), (99 + years) % 4 == 0 ? 365 : 364);
            CHECK.due("no more", x.turn(2 * years, 0), -1);
        }
    }

    private static void carriedDayByDay() {
        CHECK.says("FEASTS of R not above r: those HELD, day by day, are carried each by one");
        SaintsRoad x = Check.with("fixed 5 1 rank 3 c; fixed 1 1 rank 1 a; fixed 1 1 rank 2 b; fixed 3 1 rank 8 d octave;"
            + " fixed 1 1 rank 4 lost; fixed 12 31 rank 4 e; fixed 7 1 rank 1 late from 6; yield 3 1;");
        CHECK.due("all", x.rota(0, 5, 5, 8, 1), 5);
        int[][] rows = {{0, 1}, {1, 2}, {59, 3}, {120, 0}, {364, 5}};
        for (int k = 0; k < rows.length; k++) {
            CHECK.due("day " + k, x.turn(k, 1), rows[k][0]);
            CHECK.due("FEAST " + k, x.turn(k, 2), rows[k][1]);
        }
        CHECK.due("R not above 7", x.rota(0, 5, 5, 7, 1), 4);
        CHECK.due("R not above 4", x.rota(0, 5, 5, 4, 1), 4);
        CHECK.due("R not above 3", x.rota(0, 5, 5, 3, 1), 3);
        CHECK.due("R not above 2", x.rota(0, 5, 5, 2, 1), 2);
        CHECK.due("R not above 1", x.rota(0, 5, 5, 1, 1), 1);
        CHECK.due("in the next YEAR", x.rota(0, 6, 6, 1, 1), 2);
        CHECK.due("the last day of a long YEAR", x.rota(0, 4, 4, 8, 1), 5);
        CHECK.due("its day", x.turn(4, 1), 365);
    }

    private static void carriedLeast() {
        CHECK.says("of the set those that have carried least in these turns");
        // 0 carries twice for the QUARREL; then 1 carries till it has carried as often, though 0 did longer ago.
        SaintsRoad x = on("1 1", "1 2", "2 1", "3 1", "4 1", "5 1");
        x.quarrel(0, 1, true);
        carriers("two behind", x, 3, 0, 0, 1, 1, 0, 1);
        carriers("in these turns alone", x, 3, 0, 0, 1, 1, 0, 1);
        carriers("none but of the set", x, 0b1010, 1, 3, 1, 3, 1, 3);
    }

    private static void longestAgo() {
        CHECK.says("of them those that carried longest ago (those that haven't first)");
        SaintsRoad x = on("1 1", "1 2", "2 1", "3 1", "4 1", "5 1", "6 1");
        x.quarrel(0, 1, true);
        // 1 is kept from 0's second day, so it comes behind 2 from there on.
        carriers("not by number", x, 7, 0, 2, 1, 0, 2, 1, 0);
        x = on("1 1", "1 2", "1 3", "3 1", "4 1", "5 1", "6 1");
        x.quarrel(0, 1, true);
        x.quarrel(2, 1, true);
        // 0, then 2 and 3 for the QUARRELS; 1 hasn't carried yet, and is first when it may.
        carriers("one that hasn't", x, 15, 0, 2, 3, 1, 0, 2, 3);
    }

    private static void leastNumber() {
        CHECK.says("of them the least number");
        carriers("in order", on(MONTHS_FAR), 0b10_0110_1000, 3, 5, 6, 9, 3, 5, 6, 9);
    }

    private static void quarrelsKeptApart() {
        CHECK.says("but one that has a QUARREL with who carried at the day ahead among these");
        SaintsRoad x = on("1 1", "1 2", "1 3", "1 4", "1 5");
        carriers("peace", x, 7, 0, 1, 2, 0, 1);
        x.quarrel(1, 0, true);
        carriers("0 and 1", x, 7, 0, 2, 1, 2, 0);
        x.quarrel(1, 0, false);
        carriers("peace again", x, 7, 0, 1, 2, 0, 1);
        x.quarrel(0, 2, true);
        carriers("0 and 2", x, 7, 0, 1, 2, 1, 0);
        x.quarrel(8, 9, true);
        carriers("0 and 2, others too", x, 7, 0, 1, 2, 1, 0);
        // Those two days ahead do not count, nor do FEASTS that are not carried.
        x = Check.with("fixed 1 1 rank 1 a; fixed 1 2 rank 1 b; fixed 1 3 rank 1 c; fixed 1 2 rank 2 lost;");
        x.quarrel(0, 2, true);
        carriers("the day ahead alone", x, 7, 0, 1, 2);
        x = Check.with("fixed 1 1 rank 1 a; fixed 1 2 rank 8 low; fixed 1 3 rank 1 c;");
        x.quarrel(0, 1, true);
        CHECK.due("two of R 1", x.rota(0, 5, 5, 1, 7), 2);
        turns("the day ahead among these", x, 0, 2);
    }

    private static void sevenDays() {
        CHECK.says("if that is at most 7 days ago");
        for (int gap = 1; gap <= 10; gap++) {
            SaintsRoad x = on("1 1", "1 " + (1 + gap));
            x.quarrel(0, 1, true);
            carriers(gap + " days", x, 3, 0, gap <= 7 ? 0 : 1);
        }
        SaintsRoad x = on("1 1", "1 8", "1 16", "1 17", "1 25");
        x.quarrel(0, 1, true);
        carriers("7, 8, 1 and 8 days", x, 3, 0, 0, 1, 1, 0);
    }

    private static void overYears() {
        CHECK.says("(over years too)");
        for (int date = 1; date <= 8; date++) {
            // 28 December is 4 days ahead of 1 January, in long YEARS too.
            int near = date + 3 <= 7 ? 1 : 0;
            for (int year : new int[] {4, 5, 1999}) {
                SaintsRoad x = on("12 28", "1 " + date);
                x.quarrel(0, 1, true);
                CHECK.due("two YEARS", x.rota(0, year, year + 1, 8, 3), 4);
                CHECK.due("YEAR of the third", x.turn(2, 0), year + 1);
                if (near == 1) {
                    turns("near, " + date + " January behind " + year, x, 0, 1, 1, 0);
                } else {
                    turns("far, " + date + " January behind " + year, x, 0, 1, 0, 1);
                }
            }
        }
    }

    private static void allOfTheSet() {
        CHECK.says("only if all of the set have");
        SaintsRoad x = on("1 1", "1 2", "1 3", "1 20");
        for (int a = 0; a < 10; a++) {
            for (int b = 0; b < a; b++) {
                x.quarrel(a, b, true);
            }
        }
        CHECK.due("all have", x.count(2), 45);
        // Who carried last has none with itself, so it carries on.
        carriers("all but the one", x, 7, 0, 0, 0, 1);
        carriers("all of ten but the one", x, 1023, 0, 0, 0, 1);
        carriers("a set of one", x, 16, 4, 4, 4, 4);
    }

    private static void quarrelTold() {
        CHECK.says("Two BROTHERHOODS have a QUARREL, or none: 1 if it was otherwise, else 0");
        SaintsRoad x = new SaintsRoad();
        CHECK.due("none at first", x.count(2), 0);
        CHECK.due("none to end", x.quarrel(0, 9, false), 0);
        CHECK.due("a first one", x.quarrel(0, 9, true), 1);
        CHECK.due("there already", x.quarrel(0, 9, true), 0);
        CHECK.due("there already, the other way", x.quarrel(9, 0, true), 0);
        CHECK.due("one", x.count(2), 1);
        CHECK.due("another", x.quarrel(9, 3, true), 1);
        CHECK.due("two", x.count(2), 2);
        CHECK.due("not between those", x.quarrel(0, 3, false), 0);
        CHECK.due("ended from the other side", x.quarrel(9, 0, false), 1);
        CHECK.due("one again", x.count(2), 1);
        CHECK.due("ended already", x.quarrel(0, 9, false), 0);
        CHECK.due("the other is there still", x.quarrel(3, 9, true), 0);
    }

    private static void quarrelRefused() {
        CHECK.says("RANGE: no such, or the same");
        SaintsRoad x = new SaintsRoad();
        CHECK.bounds("the one", 0, 9, -2, a -> x.quarrel(a, 4, true));
        CHECK.bounds("the other", 0, 9, -2, b -> x.quarrel(5, b, true));
        int before = x.count(2);
        for (int a = 0; a < 10; a++) {
            CHECK.due("the same", x.quarrel(a, a, true), -2);
            CHECK.due("the same, ended", x.quarrel(a, a, false), -2);
        }
        for (int a : new int[] {-1, 10, 32, 64}) {
            CHECK.due("two that aren't", x.quarrel(a, a + 1, false), -2);
            CHECK.due("one that isn't", x.quarrel(a, 3, false), -2);
        }
        CHECK.due("RANGE changes none", x.count(2), before);
    }

    private static void rotaTold() {
        CHECK.says("III: how many FEASTS are carried");
        SaintsRoad x = on(MONTHS_FAR);
        CHECK.due("of an empty PLACE", x.rota(1, 5, 5, 8, 3), 0);
        turns("of an empty PLACE", x);
        CHECK.due("of a YEAR", x.rota(0, 5, 5, 8, 3), 8);
        CHECK.due("of two", x.rota(0, 5, 6, 8, 3), 16);
        CHECK.due("of the last ones", x.rota(0, 1981, 2000, 8, 3), 160);
        CHECK.due("of the first ones", x.rota(0, 1, 20, 8, 3), 160);
        CHECK.due("the first YEAR", x.turn(0, 0), 1);
        CHECK.due("the last YEAR", x.turn(159, 0), 20);
        Check.tell(x, 3, "fixed 1 1 rank 1 a from 7 till 7;");
        CHECK.due("of another PLACE", x.rota(3, 5, 8, 8, 3), 1);
        CHECK.due("its YEAR", x.turn(0, 0), 7);
    }

    private static void rotaRefused() {
        CHECK.says("RANGE: no such PLACE, YEARS (from above to, or more than 20 of them), r 1 .. 8, set (1 .. 1023)");
        SaintsRoad x = on(MONTHS_FAR);
        CHECK.bounds("PLACE", 0, 3, -2, p -> x.rota(p, 5, 5, 8, 3));
        CHECK.bounds("from", 1, 20, -2, from -> x.rota(0, from, 20, 8, 3));
        CHECK.bounds("to", 1981, 2000, -2, to -> x.rota(0, 1981, to, 8, 3));
        CHECK.bounds("from, 20 YEARS", 981, 1000, -2, from -> x.rota(0, from, 1000, 8, 3));
        CHECK.bounds("to, 20 YEARS", 1000, 1019, -2, to -> x.rota(0, 1000, to, 8, 3));
        CHECK.bounds("r", 1, 8, -2, r -> x.rota(0, 5, 5, r, 3));
        CHECK.bounds("set", 1, 1023, -2, set -> x.rota(0, 5, 5, 8, set));
        CHECK.due("set 1025", x.rota(0, 5, 5, 8, 1025), -2);
        CHECK.due("a wide span", x.rota(0, Integer.MIN_VALUE, Integer.MAX_VALUE, 8, 3), -2);
        CHECK.due("a span the wrong way", x.rota(0, Integer.MAX_VALUE, Integer.MIN_VALUE, 8, 3), -2);
        CHECK.due("20 YEARS", x.rota(0, 100, 119, 8, 4), 160);
        x.rota(0, 100, 120, 8, 3);
        CHECK.due("RANGE leaves the turns", x.turn(159, 0), 119);
        CHECK.due("RANGE leaves who carried", x.carried(2), 160);
    }

    private static void turnTold() {
        CHECK.says("Of the k-th FEAST of the latest rota(), what 0: YEAR, 1: day, 2: FEAST, 3: who carries it");
        SaintsRoad x = on("3 1", "2 29", "1 1");
        CHECK.due("rota", x.rota(0, 3, 4, 8, 6), 5);
        int[][] rows = {{3, 0, 2, 1}, {3, 59, 0, 2}, {4, 0, 2, 1}, {4, 59, 1, 2}, {4, 60, 0, 1}};
        for (int k = 0; k < rows.length; k++) {
            for (int what = 0; what < 4; what++) {
                CHECK.due("turn(" + k + ", " + what + ")", x.turn(k, what), rows[k][what]);
            }
        }
        Check.tell(x, 0, "");
        CHECK.due("of the latest, though the CALENDAR is another", x.turn(4, 2), 0);
        CHECK.due("rota of none", x.rota(0, 3, 4, 8, 6), 0);
        CHECK.due("the latest has none", x.turn(0, 0), -1);
    }

    private static void turnRefused() {
        CHECK.says("who carries it. NONE when there is none such");
        CHECK.due("ahead of any rota()", new SaintsRoad().turn(0, 0), -1);
        SaintsRoad x = on("3 1", "2 28", "1 1");
        x.rota(0, 5, 5, 8, 6);
        CHECK.bounds("k", 0, 2, -1, k -> x.turn(k, 0));
        CHECK.bounds("what", 0, 3, -1, what -> x.turn(2, what));
        x.rota(0, 5, 6, 8, 6);
        x.rota(0, 5, 5, 8, 6);
        CHECK.bounds("k of a shorter one", 0, 2, -1, k -> x.turn(k, 3));
    }

    private static void turnsFromThe600th() {
        CHECK.says("(those from the 600th on are not told)");
        SaintsRoad x = Check.with(Check.daily(50, 1));
        CHECK.due("600", x.rota(0, 1, 12, 8, 1023), 600);
        CHECK.bounds("k of 600", 0, 599, -1, k -> x.turn(k, 0));
        CHECK.due("1000", x.rota(0, 1, 20, 8, 1023), 1000);
        int[] last = {12, 49, 49, 9};
        for (int what = 0; what < 4; what++) {
            int asked = what;
            CHECK.due("turn(599, " + what + ")", x.turn(599, what), last[what]);
            CHECK.bounds("k of 1000", 0, 599, -1, k -> x.turn(k, asked));
        }
        for (int b = 0; b < 10; b++) {
            CHECK.due("all are counted", x.carried(b), 100);
        }
        CHECK.due("1180 and 5 days in long YEARS", Check.with(Check.daily(60, 1)).rota(0, 1, 20, 8, 1), 1185);
    }

    private static void carriedTold() {
        CHECK.says("How many the b-th BROTHERHOOD carried in the latest rota(); RANGE");
        SaintsRoad x = on(MONTHS_FAR);
        CHECK.due("ahead of any rota()", x.carried(0), 0);
        CHECK.due("ahead of any rota()", x.carried(9), 0);
        x.rota(0, 5, 5, 8, 0b10_0000_0011);
        CHECK.due("the first", x.carried(0), 3);
        CHECK.due("the second", x.carried(1), 3);
        CHECK.due("the last", x.carried(9), 2);
        CHECK.due("not of the set", x.carried(5), 0);
        x.rota(0, 5, 5, 8, 0b10_0000);
        CHECK.due("in the latest", x.carried(5), 8);
        CHECK.due("no more", x.carried(0), 0);
        CHECK.bounds("carried", 0, 9, -2, x::carried);
    }
}
