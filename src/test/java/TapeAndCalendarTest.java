/** Promises 1 to 6: a new object, feed, end, calendar, fault, feast. */
public final class TapeAndCalendarTest {
    private static final Check CHECK = new Check();

    public static void main(String[] args) {
        newObject();
        tape();
        calendarOfTape();
        feastsTold();
        syntaxFaults();
        nameFaults();
        rangeFaults();
        roomFaults();
        twiceFaults();
        faultKept();
        CHECK.finish();
    }

    private static void newObject() {
        SaintsRoad x = new SaintsRoad();
        for (int what = 0; what <= 3; what++) {
            CHECK.due("new: count(" + what + ")", x.count(what), 0);
        }
        for (int p = 0; p < 4; p++) {
            CHECK.due("new: count(1" + p + ")", x.count(10 + p), 0);
            CHECK.due("new: feast of " + p, x.feast(p, 0, 0), -1);
            CHECK.due("new: office of " + p, x.office(p, 1, 0), -10);
            CHECK.due("new: fast of " + p, x.fast(p, 1, 80), 0);
            CHECK.due("new: wax of " + p, x.wax(p, 1, 0, 364), 0);
        }
        CHECK.due("new: fault(0)", x.fault(0), 0);
        CHECK.due("new: fault(1)", x.fault(1), -1);
        CHECK.due("new: meets", x.meets(), -1);
        CHECK.due("new: turn", x.turn(0, 0), -1);
        CHECK.due("new: carried", x.carried(0), 0);
        CHECK.due("new: procession", x.procession(0, 0), -1);
    }

    private static void tape() {
        SaintsRoad x = new SaintsRoad();
        for (int n = 20; n <= 4000; n += 20) {
            CHECK.due("feed to " + n, x.feed(0x20202020, 0x20202020, 0x20202020, 0x20202020, 0x20202020), n);
        }
        CHECK.due("feed beyond 4000", x.feed(0, 0, 0, 0, 0), -3);
        CHECK.due("count after FULL", x.count(0), 4000);
        CHECK.due("end(4001)", x.end(4001), -1);
        CHECK.due("end(-1)", x.end(-1), -1);
        CHECK.due("end(least)", x.end(Integer.MIN_VALUE), -1);
        CHECK.due("end(3981)", x.end(3981), 3981);
        CHECK.due("feed to 4001", x.feed(0, 0, 0, 0, 0), -3);
        CHECK.due("end(3980)", x.end(3980), 3980);
        CHECK.due("feed to 4000 again", x.feed(0x20202020, 0x20202020, 0x20202020, 0x20202020, 0x20202020), 4000);
        CHECK.due("a full tape of blanks", x.calendar(0), 0);
        CHECK.due("the tape is empty then", x.count(0), 0);
        CHECK.due("end(0)", x.end(0), 0);
        CHECK.due("end(1) of an empty one", x.end(1), -1);
        Check.write(x, "lent ");
        Check.write(x, "4");
        Check.write(x, "0 ;");
        CHECK.due("bytes come behind", x.count(0), 9);
        CHECK.due("read as one text", x.calendar(0), 0);
        CHECK.due("lent was read", x.fast(0, 1066, 65), 1);
        CHECK.due("lent was read to its first", x.fast(0, 1066, 64), 0);
    }

    private static void calendarOfTape() {
        SaintsRoad x = new SaintsRoad();
        Check.write(x, "fixed 1 1 rank 1 a;");
        CHECK.due("calendar(-1)", x.calendar(-1), -2);
        CHECK.due("calendar(4)", x.calendar(4), -2);
        CHECK.due("RANGE leaves the tape", x.count(0), 19);
        CHECK.due("calendar(3)", x.calendar(3), 1);
        CHECK.due("count(13)", x.count(13), 1);
        CHECK.due("count(12)", x.count(12), 0);
        CHECK.due("a text with no blank needed", Check.tell(x, 0,
            "fixed1 1rank1a vigil octave from1till5;moved-3rank2b;sunday5 12rank8c;yield3 2;wax1 5;lent0;"), 3);
        CHECK.due("shift", x.own(0, 1066, 1), 102);
        CHECK.due("blanks and lines all over", Check.tell(x, 0, "\n  fixed \n1\n1 rank\n 1   a ; \n"), 1);
        CHECK.due("zeros ahead", Check.tell(x, 0, "fixed 0012 031 rank 0001 a;"), 1);
        CHECK.due("the last day", x.own(0, 4, 0), 365);
        CHECK.due("a FAULT", Check.tell(x, 0, "fixed 1 1 rank 1 b; fixed 1 1 rank 9 c;"), -1);
        CHECK.due("a FAULT empties the tape", x.count(0), 0);
        CHECK.due("a FAULT leaves the CALENDAR", x.count(10), 1);
        CHECK.due("a FAULT leaves the FEAST", x.feast(0, 0, 10), 'a');
        CHECK.due("a FAULT leaves its day", x.held(0, 4, 0), 365);
        CHECK.due("told anew", Check.tell(x, 0, "fixed 1 3 rank 1 b;"), 1);
        CHECK.due("what was is gone", x.held(0, 4, 0), 2);
        CHECK.due("told anew once more", Check.tell(x, 0, "fixed 1 4 rank 1 a;"), 1);
        CHECK.due("what was is gone again", x.held(0, 4, 0), 3);
        CHECK.due("an empty text", Check.tell(x, 0, ""), 0);
        CHECK.due("an empty CALENDAR", x.office(0, 4, 3), -10);
        CHECK.due("no wax, yield, lent of the last one", Check.tell(x, 0, "wax 1 5; yield 8 9; lent 90;"), 0);
        CHECK.due("they are told anew", Check.tell(x, 0, "wax 1 6; yield 8 9; lent 90;"), 0);
        CHECK.due("they are gone", Check.tell(x, 0, "fixed 1 1 rank 1 a; fixed 1 1 rank 1 b;"), 2);
        CHECK.due("no wax", x.wax(0, 1, 0, 364), 0);
        CHECK.due("no yield", x.held(0, 1, 1), -1);
        CHECK.due("no lent", x.fast(0, 1066, 101), 0);
    }

    private static void feastsTold() {
        SaintsRoad x = Check.with("fixed 2 29 rank 3 abcdefghijkl; moved - 46 rank 8 z vigil from 12;"
            + " sunday 5 12 rank 1 q octave till 700; fixed 1 1 rank 2 w till 9 octave from 9 vigil;");
        int[][] rows = {
            {0, 3, 0, 0, 1, 2000, 12}, {1, 8, 1, 0, 12, 2000, 1}, {2, 1, 0, 1, 1, 700, 1},
            {0, 2, 1, 1, 9, 9, 1}};
        for (int f = 0; f < rows.length; f++) {
            for (int what = 0; what < 7; what++) {
                CHECK.due("feast(0, " + f + ", " + what + ")", x.feast(0, f, what), rows[f][what]);
            }
        }
        for (int i = 0; i < 12; i++) {
            CHECK.due("letter " + i, x.feast(0, 0, 10 + i), 'a' + i);
        }
        CHECK.due("letter z", x.feast(0, 1, 10), 'z');
        CHECK.due("no letter 12", x.feast(0, 0, 22), -1);
        CHECK.due("no letter 1", x.feast(0, 1, 11), -1);
        for (int what : new int[] {7, 8, 9, -1, Integer.MAX_VALUE, Integer.MIN_VALUE}) {
            CHECK.due("feast what " + what, x.feast(0, 0, what), -1);
        }
        CHECK.due("no FEAST 4", x.feast(0, 4, 0), -1);
        CHECK.due("no FEAST -1", x.feast(0, -1, 0), -1);
        CHECK.due("no FEAST in PLACE 1", x.feast(1, 0, 0), -1);
        CHECK.due("no PLACE 4", x.feast(4, 0, 0), -1);
        CHECK.due("no PLACE -1", x.feast(-1, 0, 0), -1);
    }

    private static void fault(String text, int kind, int place) {
        SaintsRoad x = new SaintsRoad();
        int told = Check.tell(x, 2, text);
        CHECK.due("calendar of '" + text + "'", told, -1);
        CHECK.due("KIND of '" + text + "'", x.fault(0), kind);
        CHECK.due("PLACE of '" + text + "'", x.fault(1), place);
    }

    private static void sound(String text) {
        SaintsRoad x = new SaintsRoad();
        CHECK.that("no FAULT in '" + text + "'", Check.tell(x, 2, text) >= 0);
        CHECK.due("KIND of '" + text + "'", x.fault(0), 0);
        CHECK.due("PLACE of '" + text + "'", x.fault(1), -1);
    }

    private static void syntaxFaults() {
        fault(";", 1, 0);
        fault(" a", 1, 1);
        fault("5", 1, 0);
        fault("-", 1, 0);
        fault("rank 1 a;", 1, 0);
        fault("Fixed 1 1 rank 1 a;", 1, 0);
        fault("fixed", 1, 5);
        fault("fixed  ", 1, 7);
        fault("fixed - 1", 1, 6);
        fault("fixed 1 1 1", 1, 10);
        fault("fixed 1 1 rank a", 1, 15);
        fault("fixed 1 1 ranks 1 a;", 1, 10);
        fault("fixed 1 1 rank 1;", 1, 16);
        fault("fixed 1 1 rank 1 a", 1, 18);
        fault("fixed 1 1 rank 1 a 5", 1, 19);
        fault("fixed 1 1 rank 1 a b", 1, 19);
        fault("fixed 1 1 rank 1 a from;", 1, 23);
        fault("fixed 1 1 rank 1 a from vigil", 1, 24);
        fault("moved - - 5", 1, 8);
        fault("moved rank", 1, 6);
        fault("moved -", 1, 7);
        fault("sunday - 1", 1, 7);
        fault("sunday 1 1 vigil", 1, 11);
        fault("yield 1;", 1, 7);
        fault("yield 1 2 3;", 1, 10);
        fault("wax;", 1, 3);
        fault("lent 5 lent", 1, 7);
        fault("lent 5; ;", 1, 8);
        fault("lent 00005;", 1, 5);
        fault("lent 99999;", 1, 5);
        fault("lent 4294967296;", 1, 5);
        fault("fixed 1 1 rank 1 abcdefghijklm;", 1, 17);
        fault("fixed 1 1 rank 1 Abc;", 1, 17);
        fault("fixed 1 1 rank 1 aBc;", 1, 18);
        fault("lent\t5;", 1, 4);
        fault("lent\r5;", 1, 4);
        fault("lent 5;\0", 1, 7);
        fault("lent 5;" + (char) 225, 1, 7);
        fault("lent" + (char) 160 + "5;", 1, 4);
        for (String word : new String[] {"fixed", "moved", "sunday", "rank", "vigil", "octave", "from",
            "till", "yield", "wax", "lent"}) {
            fault("fixed 1 1 rank 1 " + word + ";", 1, 17);
            sound("fixed 1 1 rank 1 " + word + "s;");
        }
        for (String name : new String[] {"name", "month", "fixe", "a", "zzzzzzzzzzzz"}) {
            sound("fixed 1 1 rank 1 " + name + ";");
        }
    }

    private static void nameFaults() {
        fault("fixed 1 1 rank 1 a; moved 3 rank 2 b; sunday 1 1 rank 1 a;", 2, 56);
        fault("fixed 1 1 rank 1 a; fixed 1 1 rank 1 a vigil vigil", 2, 37);
        fault("fixed 1 1 rank 1 abcdefghijkl; fixed 1 1 rank 1 abcdefghijkl;", 2, 48);
        sound("fixed 1 1 rank 1 a; fixed 1 1 rank 1 aa; fixed 1 1 rank 1 b; fixed 1 1 rank 1 ab;"
            + " fixed 1 1 rank 1 ba;");
        SaintsRoad x = Check.with("fixed 1 1 rank 1 a;");
        CHECK.due("a name of another text", Check.tell(x, 0, "fixed 1 1 rank 1 a;"), 1);
        CHECK.due("a name of another PLACE", Check.tell(x, 1, "fixed 1 1 rank 1 a;"), 1);
    }

    private static void rangeFaults() {
        fault("fixed 0 1", 3, 6);
        fault("fixed 13 99999", 3, 6);
        fault("fixed 1 0", 3, 8);
        int[] most = {31, 29, 31, 30, 31, 30, 31, 31, 30, 31, 30, 31};
        for (int m = 1; m <= 12; m++) {
            sound("fixed " + m + " " + most[m - 1] + " rank 1 a;");
            fault("fixed " + m + " " + (most[m - 1] + 1), 3, m < 10 ? 8 : 9);
        }
        fault("moved 91", 3, 6);
        fault("moved -91", 3, 7);
        sound("moved 0 rank 1 a; moved -0 rank 1 b; moved 90 rank 1 c; moved -90 rank 1 d;");
        fault("sunday 0 1", 3, 7);
        fault("sunday 6 1", 3, 7);
        fault("sunday 5 0", 3, 9);
        fault("sunday 5 13", 3, 9);
        fault("fixed 1 1 rank 0 a", 3, 15);
        fault("fixed 1 1 rank 9 a", 3, 15);
        fault("fixed 1 1 rank 1 a from 0", 3, 24);
        fault("fixed 1 1 rank 1 a from 2001", 3, 24);
        fault("fixed 1 1 rank 1 a till 0", 3, 24);
        fault("fixed 1 1 rank 1 a from 5 till 0", 3, 31);
        fault("fixed 1 1 rank 1 a till 2001", 3, 24);
        sound("fixed 1 1 rank 8 a from 1 till 1; fixed 1 1 rank 1 b till 2000 from 2000;");
        fault("yield 0 1", 3, 6);
        fault("yield 9 1", 3, 6);
        fault("yield 8 31", 3, 8);
        sound("yield 8 30;");
        sound("yield 1 0;");
        fault("wax 0 1", 3, 4);
        fault("wax 9 1", 3, 4);
        sound("wax 8 9999; wax 1 0;");
        fault("lent 91", 3, 5);
        sound("lent 90;");
        sound("lent 0;");
    }

    private static String sixty() {
        StringBuilder text = new StringBuilder();
        for (int f = 0; f < 60; f++) {
            text.append("moved ").append(f).append(" rank 1 n").append((char) ('a' + f / 26))
                .append((char) ('a' + f % 26)).append(";\n");
        }
        return text.toString();
    }

    private static void roomFaults() {
        String sixty = sixty();
        sound(sixty);
        sound(sixty + "lent 5; wax 1 1; yield 1 1;");
        fault(sixty + " fixed 1 1 rank 1 zz;", 4, sixty.length() + 1);
        fault(sixty + "moved x", 4, sixty.length());
        fault(sixty + "sunday 9", 4, sixty.length());
        fault(sixty + "rank", 1, sixty.length());
    }

    private static void twiceFaults() {
        String head = "fixed 1 1 rank 1 a ";
        fault(head + "vigil vigil;", 5, 25);
        fault(head + "octave vigil octave;", 5, 32);
        fault(head + "from 5 vigil from 0;", 5, 32);
        fault(head + "till 5 till 5;", 5, 26);
        fault(head + "from 5 till 4;", 5, 31);
        fault(head + "till 5 from 6;", 5, 31);
        sound(head + "from 5 till 5;");
        sound(head + "till 5 from 5;");
        sound(head + "vigil; fixed 1 1 rank 1 b vigil;");
        fault("yield 1 1; wax 1 1; yield 2 2;", 5, 20);
        fault("yield 1 0; yield;", 5, 11);
        fault("lent 0; lent;", 5, 8);
        fault("wax 1 0; wax 1;", 5, 13);
        fault("wax 8 1; wax 7 1; wax 8 2;", 5, 22);
        sound("wax 1 1; wax 2 1; wax 3 1; wax 4 1; wax 5 1; wax 6 1; wax 7 1; wax 8 1;");
    }

    private static void faultKept() {
        SaintsRoad x = new SaintsRoad();
        Check.tell(x, 0, "lent 91;");
        x.calendar(9);
        CHECK.due("RANGE leaves the KIND", x.fault(0), 3);
        CHECK.due("RANGE leaves the PLACE", x.fault(1), 5);
        CHECK.due("fault(2)", x.fault(2), -1);
        CHECK.due("fault(-1)", x.fault(-1), -1);
        x.calendar(1);
        CHECK.due("the latest one was sound", x.fault(0), 0);
        CHECK.due("and has no PLACE", x.fault(1), -1);
    }
}
