import java.util.Arrays;
import java.util.List;

/** Term I: the text of a CALENDAR and its FAULTS. */
public final class TextTest {
    private static final Check CHECK = new Check();
    private static final String HEAD = "fixed 1 1 rank 1 a ";
    private static final String[] QUOTED = {"fixed", "moved", "sunday", "rank", "vigil", "octave", "from", "till",
        "yield", "wax", "lent"};

    public static void main(String[] args) {
        wholeTape();
        blanks();
        words();
        numbers();
        signs();
        whatGoesOn();
        textsAndLines();
        kindsOfLines();
        marksInAnyOrder();
        names();
        months();
        dates();
        shifts();
        weeks();
        ranks();
        years();
        otherNumbers();
        places();
        firstComeTo();
        leastKind();
        syntax();
        namesTwice();
        outOfBounds();
        room();
        twiceBehindNames();
        twiceYieldAndLent();
        twiceWax();
        tillBelowFrom();
        CHECK.finish();
    }

    private static void fault(String text, int kind, int place) {
        SaintsRoad x = new SaintsRoad();
        CHECK.due("calendar of '" + text + "'", Check.tell(x, 2, text), -1);
        CHECK.due("KIND of '" + text + "'", x.fault(0), kind);
        CHECK.due("PLACE of '" + text + "'", x.fault(1), place);
        CHECK.due("FEASTS of '" + text + "'", x.count(12), 0);
    }

    private static void sound(String text, int feasts) {
        SaintsRoad x = new SaintsRoad();
        CHECK.due("calendar of '" + text + "'", Check.tell(x, 2, text), feasts);
        CHECK.due("KIND of '" + text + "'", x.fault(0), 0);
        CHECK.due("PLACE of '" + text + "'", x.fault(1), -1);
        CHECK.due("FEASTS of '" + text + "'", x.count(12), feasts);
    }

    private static void wholeTape() {
        CHECK.says("A CALENDAR's text, on THE TAPE (at most 4000 bytes)");
        String head = "fixed 1 1 rank 1 a";
        sound(head + " ".repeat(3999 - head.length()) + ";", 1);
        fault(head + " ".repeat(4000 - head.length()), 1, 4000);
        sound(" ".repeat(3999 - head.length()) + head + ";", 1);
        sound(" ".repeat(4000), 0);
        // NAMES and numbers to the last byte: sixty FEASTS, and blanks between.
        String sixty = Check.daily(60, 8);
        sound(sixty + "\n".repeat(3993 - sixty.length()) + "lent 1;", 60);
    }

    private static void blanks() {
        CHECK.says("TOKENS with any blanks (32, 10) between");
        sound("fixed1 1rank1a vigil octave from1till5;moved-3rank2b;sunday5 12rank8c;yield3 2;wax1 5;lent0;", 3);
        sound("\n  fixed \n1\n1 rank\n 1   a \n\n; \n", 1);
        for (int b = 0; b < 256; b++) {
            if (b == 32 || b == 10) {
                sound("lent" + (char) b + "5;", 0);
                sound((char) b + "lent 5;", 0);
                sound("lent 5;" + (char) b, 0);
            } else if (b < '0' || b > '9') {
                fault("lent" + (char) b + "5;", 1, b >= 'a' && b <= 'z' ? 0 : 4);
                fault("lent 5;" + (char) b, 1, 7);
            }
        }
    }

    private static void words() {
        CHECK.says("WORDS (small letters, as many as there are, 12 at most)");
        sound("fixed 1 1 rank 1 abcdefghijkl;", 1);
        sound("fixed 1 1 rank 1 mnopqrstuvwx;", 1);
        sound("fixed 1 1 rank 1 yz;", 1);
        fault("fixed 1 1 rank 1 abcdefghijklm;", 1, 17);
        fault("fixed 1 1 rank 1 " + "z".repeat(3000) + ";", 1, 17);
        fault("abcdefghijklm", 1, 0);
        // As many letters as there are: no two WORDS without a blank between.
        fault("fixed 1 1 rank 1 avigil octavevigil;", 1, 24);
        fault("fixed 1 1 rank 1 a vigiloctave;", 1, 19);
        fault("fixed 1 1 rank 1 a vigiloctavefrom 5;", 1, 19);
        for (char other : new char[] {'`', '{', '@', 'A', 'Z', '[', '_', '.', ',', 0, 127, 225, 255}) {
            fault("fixed 1 1 rank 1 " + other + ";", 1, 17);
            fault("fixed 1 1 rank 1 b" + other + "c;", 1, 18);
        }
    }

    private static void numbers() {
        CHECK.says("NUMBERS (digits, as many as there are, 4 at most)");
        sound("lent 0005;", 0);
        sound("wax 1 9999;", 0);
        sound("wax 1 0000;", 0);
        sound("fixed 0012 031 rank 0001 a;", 1);
        fault("lent 00005;", 1, 5);
        fault("wax 1 10000;", 1, 6);
        fault("lent 4294967296;", 1, 5);
        fault("lent 4294967301;", 1, 5);
        fault("lent " + "0".repeat(3000) + ";", 1, 5);
        // As many digits as there are: no two NUMBERS without a blank between.
        fault("fixed 11 rank 1 a;", 1, 9);
        for (char other : new char[] {'/', ':', '+', '.', 'x', 178}) {
            fault("lent " + other + ";", 1, 5);
            fault("lent 1" + other + "0;", 1, 6);
        }
        SaintsRoad x = Check.with("fixed 9 08 rank 7 a from 1234 till 1567; wax 7 8901;");
        CHECK.due("from", x.feast(0, 0, 4), 1234);
        CHECK.due("till", x.feast(0, 0, 5), 1567);
        CHECK.due("wax", x.wax(0, 1234, 250, 250), 8901);
    }

    private static void signs() {
        CHECK.says(", - and ;");
        sound("moved-5rank 1 a;moved - 6 rank 1 b ; moved\n-\n7 rank 1 c\n;", 3);
        fault("moved --5 rank 1 a;", 1, 7);
        fault("moved 5- rank 1 a;", 1, 7);
        fault("moved +5 rank 1 a;", 1, 6);
        fault("fixed-1 1 rank 1 a;", 1, 5);
        fault("lent 5:", 1, 6);
        fault("lent 5,", 1, 6);
        fault("lent 5.", 1, 6);
    }

    /** Each TOKEN behind each beginning of a text: with which it goes on, and (in the third row) which are TWICE. */
    private static void whatGoesOn() {
        CHECK.says("a TOKEN (or byte that is none, a run that is too long) with which no text goes on");
        String line = "fixed moved sunday yield wax lent";
        String[][] rows = {
            {"", line, ""}, {HEAD + "; ", line, ""}, {"wax 1 1; ", line, ""},
            {" lent 1; ", "fixed moved sunday yield wax", "lent"}, {"yield 1 1;", "fixed moved sunday wax lent", "yield"},
            {"fixed ", "1", ""}, {"fixed 1 ", "1", ""}, {"fixed 1 1 ", "rank", ""}, {"fixed 1 1 rank ", "1", ""},
            {"fixed 1 1 rank 1 ", "b", ""}, {HEAD, "vigil octave from till ;", ""},
            {HEAD + "vigil ", "octave from till ;", "vigil"}, {HEAD + "octave ", "vigil from till ;", "octave"},
            {HEAD + "from ", "1", ""}, {HEAD + "from 1 ", "vigil octave till ;", "from"},
            {HEAD + "till ", "1", ""}, {HEAD + "till 1 ", "vigil octave from ;", "till"},
            {HEAD + "till 1 from 1 octave vigil ", ";", "till from octave vigil"},
            {"moved ", "- 1", ""}, {"moved - ", "1", ""}, {"moved 1 ", "rank", ""}, {"moved - 1 ", "rank", ""},
            {"moved 1 rank ", "1", ""}, {"moved 1 rank 1 ", "b", ""}, {"moved 1 rank 1 b ", "vigil octave from till ;", ""},
            {"sunday ", "1", ""}, {"sunday 1 ", "1", ""}, {"sunday 1 1 ", "rank", ""}, {"sunday 1 1 rank ", "1", ""},
            {"sunday 1 1 rank 1 ", "b", ""}, {"sunday 1 1 rank 1 b ", "vigil octave from till ;", ""},
            {"yield ", "1", ""}, {"yield 1 ", "1", ""}, {"yield 1 1 ", ";", ""}, {"wax ", "1", ""}, {"wax 1 ", "1", ""},
            {"wax 1 1 ", ";", ""}, {"lent ", "1", ""}, {"lent 1 ", ";", ""}};
        String tokens = line + " rank vigil octave from till b 1 - ; % ~ aaaaaaaaaaaaa 00001";
        for (String[] row : rows) {
            List<String> fits = Arrays.asList(row[1].split(" "));
            List<String> twice = Arrays.asList(row[2].split(" "));
            for (String token : tokens.split(" ")) {
                String text = row[0] + token;
                if (fits.contains(token)) {
                    fault(text + " ?", 1, text.length() + 1);
                } else {
                    fault(text, twice.contains(token) ? 5 : 1, row[0].length());
                }
            }
        }
    }

    private static void textsAndLines() {
        CHECK.says("text = {line \";\"}");
        sound("", 0);
        sound(" ", 0);
        sound("lent 5;", 0);
        sound("lent 5;wax 1 1;", 0);
        fault(";", 1, 0);
        fault("lent 5;;", 1, 7);
        fault("lent 5", 1, 6);
        fault("lent 5; wax 1 1", 1, 15);
        fault(HEAD, 1, 19);
        sound(HEAD + ";", 1);
        fault("lent 5 wax 1 1;", 1, 7);
    }

    private static void kindsOfLines() {
        CHECK.says("line = (\"fixed\" M D | \"moved\" [\"-\"] N | \"sunday\" K M) \"rank\" R NAME");
        SaintsRoad x = Check.with("fixed 2 3 rank 4 a; moved 5 rank 6 b; moved - 7 rank 8 c; sunday 2 3 rank 1 d;"
            + " yield 2 3; wax 4 5; lent 6;");
        int[][] rows = {{0, 4, 33}, {1, 6, 106}, {1, 8, 94}, {2, 1, 66}};
        for (int f = 0; f < rows.length; f++) {
            CHECK.due("kind of " + f, x.feast(0, f, 0), rows[f][0]);
            CHECK.due("R of " + f, x.feast(0, f, 1), rows[f][1]);
            CHECK.due("OWN day of " + f, x.own(0, 5, f), rows[f][2]);
        }
        CHECK.says("| \"yield\" R N | \"wax\" R N | \"lent\" N.");
        CHECK.due("wax of R 4", x.wax(0, 5, 33, 33), 5);
        CHECK.due("lent", x.fast(0, 5, 95), 1);
        for (String line : new String[] {"fixed 2 3 4 rank 5 a;", "fixed 2 rank 5 a;", "sunday 2 rank 5 a;",
            "moved 2 3 rank 5 a;", "yield 2;", "yield 2 3 4;", "wax 4;", "wax 4 5 6;", "lent;", "lent 6 7;", "lent 6 a;",
            "yield 2 3 a;", "fixed 2 3 a rank 4;", "fixed 2 3 rank 4;", "fixed 2 3 rank a;", "fixed 2 3 rank 4 a b;"}) {
            SaintsRoad y = new SaintsRoad();
            CHECK.due("calendar of '" + line + "'", Check.tell(y, 0, line), -1);
            CHECK.due("KIND of '" + line + "'", y.fault(0), 1);
        }
    }

    private static void marksInAnyOrder() {
        CHECK.says("{\"vigil\" | \"octave\" | \"from\" Y | \"till\" Y}");
        sound(HEAD + ";", 1);
        for (String marks : new String[] {"vigil", "octave", "from 5", "till 5", "octave vigil", "till 9 from 5",
            "from 5 vigil till 9 octave", "till 9 octave from 5 vigil", "vigil octave from 5 till 9"}) {
            sound(HEAD + marks + ";", 1);
        }
    }

    private static void names() {
        CHECK.says("NAMES are WORDS but those quoted here");
        for (String word : QUOTED) {
            fault("fixed 1 1 rank 1 " + word + ";", 1, 17);
            sound("fixed 1 1 rank 1 " + word + "s;", 1);
            sound("fixed 1 1 rank 1 " + word.substring(1) + ";", 1);
            sound("fixed 1 1 rank 1 " + word.substring(0, word.length() - 1) + ";", 1);
            for (int i = 0; i < word.length(); i++) {
                sound("fixed 1 1 rank 1 " + word.substring(0, i) + "q" + word.substring(i + 1) + ";", 1);
            }
        }
        for (String name : new String[] {"name", "line", "text", "m", "d", "n", "k", "r", "y", "feast", "easter"}) {
            sound("fixed 1 1 rank 1 " + name + ";", 1);
        }
    }

    /** That a NUMBER at % of a text is from least to most. */
    private static void bounds(String text, int least, int most) {
        int at = text.indexOf('%');
        String head = text.substring(0, at);
        for (int n : new int[] {least, most}) {
            SaintsRoad x = new SaintsRoad();
            CHECK.that(text + " takes " + n, Check.tell(x, 0, head + n + text.substring(at + 1)) >= 0);
        }
        for (int n : new int[] {least - 1, most + 1, 9999}) {
            if (n >= 0 && n > most && n < 10000 || n >= 0 && n < least) {
                fault(head + n + text.substring(at + 1), 3, at);
                fault(head + n, 3, at);
            }
        }
    }

    private static void months() {
        CHECK.says("M 1 .. 12");
        bounds("fixed % 1 rank 1 a;", 1, 12);
        bounds("sunday 1 % rank 1 a;", 1, 12);
    }

    private static void dates() {
        CHECK.says("D 1 .. as many as month M has at most (29 of February)");
        int[] most = {31, 29, 31, 30, 31, 30, 31, 31, 30, 31, 30, 31};
        for (int m = 1; m <= 12; m++) {
            bounds("fixed " + m + " % rank 1 a;", 1, most[m - 1]);
        }
    }

    private static void shifts() {
        CHECK.says("N of moved 0 .. 90 (days behind EASTER, with - ahead of it)");
        bounds("moved % rank 1 a;", 0, 90);
        bounds("moved -% rank 1 a;", 0, 90);
        bounds("moved - % rank 1 a;", 0, 90);
        SaintsRoad x = Check.with("moved 0 rank 1 a; moved -0 rank 1 b; moved 90 rank 1 c; moved -20 rank 1 d;"
            + " moved 1 rank 1 e; moved -1 rank 1 f;");
        int[] days = {101, 101, 191, 81, 102, 100};
        for (int f = 0; f < days.length; f++) {
            CHECK.due("own " + f, x.own(0, 5, f), days[f]);
        }
    }

    private static void weeks() {
        CHECK.says("K 1 .. 5 (the K-th Sunday of month M)");
        bounds("sunday % 1 rank 1 a;", 1, 5);
        SaintsRoad x = Check.with("sunday 1 1 rank 1 a; sunday 4 1 rank 1 b; sunday 1 3 rank 1 c; sunday 5 3 rank 1 d;"
            + " sunday 2 12 rank 1 e;");
        // The Sundays of YEAR 5: 4 January and each seventh day behind it.
        int[] days = {3, 24, 59, 87, 346};
        for (int f = 0; f < days.length; f++) {
            CHECK.due("own " + f, x.own(0, 5, f), days[f]);
        }
    }

    private static void ranks() {
        CHECK.says("R 1 .. 8 (1 the highest rank)");
        bounds("fixed 1 1 rank % a;", 1, 8);
        bounds("moved 1 rank % a;", 1, 8);
        bounds("sunday 1 1 rank % a;", 1, 8);
        bounds("yield % 1;", 1, 8);
        bounds("wax % 1;", 1, 8);
        SaintsRoad x = Check.with("fixed 1 1 rank 8 a; fixed 1 1 rank 7 b; fixed 1 1 rank 1 c; fixed 1 1 rank 2 d;");
        CHECK.due("1 the highest", x.office(0, 5, 0), 2);
    }

    private static void years() {
        CHECK.says("Y 1 .. 2000");
        bounds(HEAD + "from %;", 1, 2000);
        bounds(HEAD + "till %;", 1, 2000);
        bounds(HEAD + "till 2000 from %;", 1, 2000);
        bounds(HEAD + "from 1 till %;", 1, 2000);
    }

    private static void otherNumbers() {
        CHECK.says("N of yield 0 .. 30, of wax 0 .. 9999, of lent 0 .. 90");
        bounds("yield 1 %;", 0, 30);
        bounds("wax 1 %;", 0, 9999);
        bounds("lent %;", 0, 90);
    }

    private static void places() {
        CHECK.says("KIND and PLACE (a TOKEN's first byte; the text's length at its end)");
        fault("   rank", 1, 3);
        fault("\n\nfixed\n\n0", 3, 9);
        fault("fixed", 1, 5);
        fault("fixed  ", 1, 7);
        fault("fixed\n\n\n", 1, 8);
        fault(HEAD + " ;fixed 1 1 rank 1  a", 2, 39);
        String long4000 = " ".repeat(3996) + "lent";
        fault(long4000, 1, 4000);
        fault(" ".repeat(3999) + "-", 1, 3999);
        fault("lent" + " ".repeat(3996), 1, 4000);
    }

    private static void firstComeTo() {
        CHECK.says("the first come to as TOKENS are read one by one");
        fault("fixed 13 % rank", 3, 6);
        fault("fixed 13 99999", 3, 6);
        fault("fixed 1 32 rank 9", 3, 8);
        fault("fixed 1 1 rank 9 rank", 3, 15);
        fault("fixed 1 1 ranks 9", 1, 10);
        fault(HEAD + "; " + HEAD + "vigil vigil %", 2, 38);
        fault("yield 1 1; yield 99 %", 5, 11);
        fault("wax 1 1; wax 1 %", 5, 13);
        fault("fixed 2 30", 3, 8);
        fault("fixed 1 1 rank 1 aB;", 1, 18);
        fault(HEAD + "; fixed 1 1 rank 1 aB;", 2, 38);
    }

    private static void leastKind() {
        CHECK.says("of one TOKEN the least KIND");
        fault(HEAD + "from 5 till 0;", 3, 31);
        fault(HEAD + "till 5 from 2001;", 3, 31);
        fault(HEAD + "from 5 till 4;", 5, 31);
        fault(HEAD + "from 5 till 00004;", 1, 31);
        fault(Check.daily(60, 1) + "fixeds", 1, Check.daily(60, 1).length());
        fault("fixed 1 1 rank 1 a; fixed 1 1 rank 1 vigil", 1, 37);
    }

    private static void syntax() {
        CHECK.says("1 SYNTAX: a TOKEN (or byte that is none, a run that is too long)");
        fault("Fixed 1 1 rank 1 a;", 1, 0);
        fault("fixed - 1", 1, 6);
        fault("moved - - 5", 1, 8);
        fault("sunday -1 1", 1, 7);
        fault("lent -5;", 1, 5);
        fault("yield -1 1;", 1, 6);
        fault("lent 5;" + (char) 255, 1, 7);
        fault("lent\t5;", 1, 4);
        fault("lent\r5;", 1, 4);
        fault("lent" + (char) 160 + "5;", 1, 4);
        fault("fixed 1 1 rank 1;", 1, 16);
    }

    private static void namesTwice() {
        CHECK.says("2 NAME: one that is there already");
        fault("fixed 1 1 rank 1 a; moved 3 rank 2 b; sunday 1 1 rank 1 a;", 2, 56);
        fault("fixed 1 1 rank 1 a; moved 3 rank 2 b; sunday 1 1 rank 1 b;", 2, 56);
        fault("fixed 1 1 rank 1 abcdefghijkl; fixed 1 1 rank 1 abcdefghijkl;", 2, 48);
        fault("fixed 1 1 rank 1 a till 5; fixed 1 1 rank 1 a from 6;", 2, 44);
        sound("fixed 1 1 rank 1 a; fixed 1 1 rank 1 aa; fixed 1 1 rank 1 b; fixed 1 1 rank 1 ab;"
            + " fixed 1 1 rank 1 ba; fixed 1 1 rank 1 aaaaaaaaaaaa; fixed 1 1 rank 1 aaaaaaaaaaab;"
            + " fixed 1 1 rank 1 aaaaaaaaaaa; fixed 1 1 rank 1 baaaaaaaaaaa;", 9);
        String sixty = Check.daily(60, 1);
        fault(sixty.substring(0, sixty.lastIndexOf("fixed")) + "moved 1 rank 1 aa;", 2,
            sixty.lastIndexOf("fixed") + 15);
        SaintsRoad x = Check.with("fixed 1 1 rank 1 a;");
        CHECK.due("a NAME of the CALENDAR that was", Check.tell(x, 0, "fixed 1 1 rank 1 a;"), 1);
        CHECK.due("a NAME of another PLACE", Check.tell(x, 1, "fixed 1 1 rank 1 a;"), 1);
    }

    private static void outOfBounds() {
        CHECK.says("3 RANGE: a NUMBER out of its bounds");
        fault("fixed 0 1", 3, 6);
        fault("fixed 2 30", 3, 8);
        fault("moved 91", 3, 6);
        fault("moved -91", 3, 7);
        fault("sunday 6 1", 3, 7);
        fault(HEAD + "from 0", 3, 24);
        fault(HEAD + "till 2001", 3, 24);
        fault("yield 8 31", 3, 8);
        fault("lent 0091", 3, 5);
    }

    private static void room() {
        CHECK.says("4 ROOM: the 61st feast, at its first WORD");
        String sixty = Check.daily(60, 1);
        sound(sixty, 60);
        sound(sixty + "lent 5; wax 1 1; yield 1 1;", 60);
        fault(sixty + " fixed 1 1 rank 1 zz;", 4, sixty.length() + 1);
        fault(sixty + "moved x", 4, sixty.length());
        fault(sixty + "sunday 9", 4, sixty.length());
        fault(sixty + "lent 5;moved", 4, sixty.length() + 7);
        fault(sixty + "rank", 1, sixty.length());
        sound(Check.daily(59, 1) + "sunday 1 1 rank 1 zz;", 60);
    }

    private static void twiceBehindNames() {
        CHECK.says("5 TWICE: a word behind a NAME that is there already, at it");
        fault(HEAD + "vigil vigil;", 5, 25);
        fault(HEAD + "octave octave;", 5, 26);
        fault(HEAD + "octave vigil octave;", 5, 32);
        fault(HEAD + "from 5 vigil from 0;", 5, 32);
        fault(HEAD + "till 5 till 5;", 5, 26);
        fault(HEAD + "till 5 from 5 till", 5, 33);
        sound(HEAD + "vigil octave from 1 till 1; fixed 1 1 rank 1 b vigil octave from 1 till 1;", 2);
    }

    private static void twiceYieldAndLent() {
        CHECK.says("a second yield, lent, at the WORD");
        fault("yield 1 1; wax 1 1; yield 2 2;", 5, 20);
        fault("yield 1 0; yield;", 5, 11);
        fault("lent 0; lent;", 5, 8);
        fault("lent 5; fixed 1 1 rank 1 a; lent 6;", 5, 28);
        sound("yield 1 0; lent 0;", 0);
        SaintsRoad x = Check.with("yield 1 1; lent 5;");
        CHECK.due("one of the CALENDAR that was", Check.tell(x, 0, "yield 1 1; lent 5;"), 0);
        Check.tell(x, 0, "yield 1 1; lent 5; wax 1 1; %");
        CHECK.due("one of a text with a FAULT", Check.tell(x, 0, "yield 1 1; lent 5; wax 1 1;"), 0);
    }

    private static void twiceWax() {
        CHECK.says("a second wax of one rank, at the R");
        fault("wax 1 0; wax 1;", 5, 13);
        fault("wax 1 0; wax 01;", 5, 13);
        fault("wax 8 1; wax 7 1; wax 8 2;", 5, 22);
        sound("wax 1 1; wax 2 1; wax 3 1; wax 4 1; wax 5 1; wax 6 1; wax 7 1; wax 8 1;", 0);
        for (int r = 1; r <= 8; r++) {
            fault("wax 1 1; wax 2 1; wax 3 1; wax 4 1; wax 5 1; wax 6 1; wax 7 1; wax 8 1; wax " + r, 5, 76);
        }
        SaintsRoad x = Check.with("wax 1 1;");
        CHECK.due("one of the CALENDAR that was", Check.tell(x, 0, "wax 1 1;"), 0);
        CHECK.due("one of another PLACE", Check.tell(x, 1, "wax 1 1;"), 0);
    }

    private static void tillBelowFrom() {
        CHECK.says("a till below its from, or a from above its till, at the NUMBER");
        fault(HEAD + "from 5 till 4;", 5, 31);
        fault(HEAD + "till 5 from 6;", 5, 31);
        fault(HEAD + "from 2000 till 1999;", 5, 34);
        fault(HEAD + "till 1 from 2;", 5, 31);
        fault(HEAD + "from 5 vigil till 4", 5, 37);
        sound(HEAD + "from 5 till 5;", 1);
        sound(HEAD + "till 5 from 5;", 1);
        sound(HEAD + "from 2000 till 2000;", 1);
        sound(HEAD + "till 1 from 1;", 1);
        sound(HEAD + "till 4; fixed 1 1 rank 1 b from 5;", 2);
    }
}
