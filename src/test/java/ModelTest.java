import java.nio.charset.StandardCharsets;
import java.util.Arrays;
import java.util.Random;

/** All promises: runs of chance calls, each answer compared with the Model's. */
public final class ModelTest {
    private static final int RUNS = 400;
    /** One round more of calls stays within the 512 that the document promises. */
    private static final int MOST_CALLS = 500;
    private static final String[] WORDS = {"fixed", "moved", "sunday", "rank", "vigil", "octave", "from", "till",
        "yield", "wax", "lent", "a", "zz", ";", "-", "5", "0", "9", "2001", "12345", "abcdefghijklm", "%", "A", "\0"};
    private static final String[] BLANKS = {" ", "\n", "  ", " \n "};

    private final Random chance;
    private final SaintsRoad road = new SaintsRoad();
    private final Model model = new Model();
    private final Check check;
    private final int run;
    /** Most years are near each other, so that froms and tills matter and settled YEARS are met again. */
    private final int era;
    private int calls;

    private ModelTest(int run, Check check) {
        this.run = run;
        this.check = check;
        chance = new Random(7919L * run + 1);
        era = 1 + chance.nextInt(2000);
    }

    public static void main(String[] args) {
        int runs = args.length > 0 ? Integer.parseInt(args[0]) : RUNS;
        int first = args.length > 1 ? Integer.parseInt(args[1]) : 0;
        Check check = new Check();
        for (int run = first; run < first + runs && check.isAllRight(); run++) {
            new ModelTest(run, check).go();
        }
        check.finish();
    }

    private void go() {
        int theme = run % 4;
        while (calls < MOST_CALLS) {
            int dice = chance.nextInt(10);
            if (theme == 0 && dice < 7) {
                tellCalendar();
            } else if (theme == 1 && dice < 8 || theme == 3 && dice < 3) {
                askYear();
            } else if (theme == 2 && dice < 9 || theme == 3 && dice < 6) {
                walk();
            } else if (dice < 9) {
                brotherhood();
            } else {
                tellCalendar();
            }
        }
    }

    private void same(String call, int got, int want, int... args) {
        calls++;
        check.due("run " + run + ", call " + calls + ": " + call + Arrays.toString(args), got, want);
    }

    private int upTo(int n) {
        return chance.nextInt(n);
    }

    /** Mostly from least to most; at times a bit beyond, or far. */
    private int about(int least, int most) {
        int dice = upTo(60);
        if (dice == 0) {
            return least - 1;
        }
        if (dice == 1) {
            return most + 1;
        }
        if (dice == 2) {
            return chance.nextInt();
        }
        return least + upTo(most - least + 1);
    }

    private int place() {
        return about(0, 3);
    }

    private int year() {
        if (upTo(5) == 0) {
            return about(1, 2000);
        }
        return Math.min(2000, era + upTo(6));
    }

    private int day() {
        return upTo(4) == 0 ? about(360, 366) : about(0, 364);
    }

    private void tellCalendar() {
        byte[] bytes = text().getBytes(StandardCharsets.ISO_8859_1);
        int from = upTo(8) == 0 ? 0 : same0("end", 0);
        byte[] padded = Arrays.copyOf(bytes, (bytes.length + 19) / 20 * 20);
        for (int i = 0; i < padded.length && calls < MOST_CALLS; i += 20) {
            int[] w = {Check.four(padded, i), Check.four(padded, i + 4), Check.four(padded, i + 8),
                Check.four(padded, i + 12), Check.four(padded, i + 16)};
            same("feed", road.feed(w[0], w[1], w[2], w[3], w[4]), model.feed(w), w);
        }
        int n = upTo(30) == 0 ? about(0, 4000) : from + bytes.length;
        same("end", road.end(n), model.end(n), n);
        int p = place();
        same("calendar", road.calendar(p), model.calendar(p), p);
        same("fault", road.fault(0), model.fault(0), 0);
        same("fault", road.fault(1), model.fault(1), 1);
        same("fault", road.fault(2), model.fault(2), 2);
        askFeast();
    }

    private int same0(String call, int n) {
        same(call, road.end(n), model.end(n), n);
        return n;
    }

    private String text() {
        StringBuilder text = new StringBuilder();
        int lines = upTo(12) == 0 ? 55 + upTo(8) : upTo(14);
        boolean careful = upTo(3) > 0;
        for (int i = 0; i < lines; i++) {
            text.append(line(careful, i, lines)).append(upTo(2) == 0 ? ";" : " ;").append(blank());
        }
        if (upTo(3) > 0) {
            text.append(end());
        }
        return upTo(4) == 0 ? spoilt(text.toString()) : text.toString();
    }

    private String end() {
        String[] ends = {"yield " + (1 + upTo(8)) + " " + upTo(31) + ";", "lent " + upTo(91) + ";",
            "wax " + (1 + upTo(4)) + " " + upTo(10000) + ";wax " + (5 + upTo(4)) + blank() + upTo(10000) + ";",
            "yield 8 " + upTo(5) + ";lent 46;wax 1 40;wax 2 30;wax 3 21;wax 4 7;"};
        return ends[upTo(4)] + (upTo(6) == 0 ? ends[upTo(4)] : "");
    }

    private String blank() {
        return BLANKS[upTo(BLANKS.length)];
    }

    private String number(int least, int most) {
        int dice = upTo(400);
        int value = dice == 0 ? least - 1 : dice == 1 ? most + 1 : least + upTo(most - least + 1);
        return blank() + (upTo(20) == 0 ? "0" : "") + Math.max(0, value) + blank();
    }

    private String line(boolean careful, int i, int lines) {
        String day;
        int dice = upTo(4);
        if (dice == 0) {
            day = "fixed" + number(1, 12) + number(1, upTo(20) == 0 ? 31 : 28);
        } else if (dice == 1) {
            // Many on a few days, so that they give way to each other.
            day = "fixed" + number(3, 3) + number(20, 26);
        } else if (dice == 2) {
            day = "moved " + (upTo(2) == 0 ? "-" : "") + (upTo(3) == 0 ? number(0, 90) : number(0, 6));
        } else {
            day = "sunday" + number(1, 5) + number(1, 12);
        }
        String name = careful ? "n" + (char) ('a' + i / 26) + (char) ('a' + i % 26) : "" + (char) ('a' + upTo(26));
        StringBuilder line = new StringBuilder(day + "rank" + number(1, lines < 5 ? 3 : 8) + name);
        int marks = upTo(4);
        for (int m = 0; m < marks; m++) {
            line.append(blank()).append(mark(careful, m));
        }
        return line.toString();
    }

    private String mark(boolean careful, int m) {
        int which = careful ? m : upTo(4);
        switch (which) {
            case 0: return "octave";
            case 1: return "vigil";
            case 2: return "from" + number(Math.max(1, era - 3), Math.min(2000, era + 3));
            default: return "till" + number(Math.max(1, era - 1), Math.min(2000, era + 4));
        }
    }

    private String spoilt(String text) {
        int at = upTo(text.length() + 1);
        String word = WORDS[upTo(WORDS.length)];
        int cut = Math.min(text.length(), at + upTo(8));
        switch (upTo(4)) {
            case 0: return text.substring(0, at) + word + text.substring(at);
            case 1: return text.substring(0, at) + " " + word + " " + text.substring(at);
            case 2: return text.substring(0, at) + text.substring(cut);
            default: return text.substring(0, at);
        }
    }

    private void askFeast() {
        int p = place();
        int f = about(0, Math.max(0, model.count(10 + p)));
        int what = about(0, 23);
        same("feast", road.feast(p, f, what), model.feast(p, f, what), p, f, what);
        int y = year();
        same("own", road.own(p, y, f), model.own(p, y, f), p, y, f);
        same("held", road.held(p, y, f), model.held(p, y, f), p, y, f);
    }

    private void askYear() {
        int p = place();
        int y = year();
        int d = upTo(2) == 0 ? about(60, 130) : day();
        int e = upTo(2) == 0 ? d + upTo(20) : day();
        int r = about(1, 8);
        int q = place();
        switch (upTo(9)) {
            case 0: same("easter", road.easter(y), model.easter(y), y); break;
            case 1: same("date", road.date(y, d, r - 1), model.date(y, d, r - 1), y, d, r - 1); break;
            case 2: same("wax", road.wax(p, y, d, e), model.wax(p, y, d, e), p, y, d, e); break;
            case 3: same("next", road.next(p, y, d, r), model.next(p, y, d, r), p, y, d, r); break;
            case 4: same("unlike", road.unlike(p, q, y), model.unlike(p, q, y), p, q, y); break;
            case 5: same("fast", road.fast(p, y, d), model.fast(p, y, d), p, y, d); break;
            case 6: same("office", road.office(p, y, d), model.office(p, y, d), p, y, d); break;
            case 7: askFeast(); break;
            default: same("count", road.count(r + 7), model.count(r + 7), r + 7); break;
        }
    }

    private void brotherhood() {
        int a = about(0, 9);
        int b = about(0, 9);
        boolean on = upTo(3) > 0;
        int p = place();
        int y = year();
        int to = y + (upTo(6) == 0 ? about(0, 25) : upTo(4));
        int r = about(1, 8);
        int set = about(1, 1023);
        switch (upTo(8)) {
            case 0: same("rota", road.rota(p, y, to, r, set), model.rota(p, y, to, r, set), p, y, to, r, set); break;
            case 1: same("carried", road.carried(a), model.carried(a), a); break;
            case 2: case 3: case 4:
                int k = upTo(4) == 0 ? about(0, 610) : upTo(40);
                int what = about(0, 3);
                same("turn", road.turn(k, what), model.turn(k, what), k, what);
                break;
            case 5: same("count", road.count(2), model.count(2), 2); break;
            default: same("quarrel", road.quarrel(a, b, on), model.quarrel(a, b, on), a, b, on ? 1 : 0); break;
        }
    }

    private void walk() {
        // Few CORNERS and PROCESSIONS in most runs, so that they MEET.
        int corners = run % 8 < 4 ? 5 : 19;
        int a = about(0, corners);
        int b = about(0, corners);
        int k = about(0, run % 16 < 8 ? 4 : 11);
        int l = about(0, run % 16 < 8 ? 4 : 11);
        int minute = upTo(3) == 0 ? about(0, 1440) : about(600, 700);
        int small = about(0, 30);
        switch (upTo(14)) {
            case 0: case 1: same("street", road.street(a, b, small), model.street(a, b, small), a, b, small); break;
            case 2: same("begin", road.begin(k, a, minute, small), model.begin(k, a, minute, small), k, a, minute, small);
                break;
            case 3: same("late", road.late(k, 3 * small), model.late(k, 3 * small), k, 3 * small); break;
            case 4: same("meets", road.meets(), model.meets()); break;
            case 5: same("meeting", road.meeting(k, l), model.meeting(k, l), k, l); break;
            case 6: if (upTo(3) == 0) {
                    same("timed", road.timed(k, minute), model.timed(k, minute), k, minute);
                }
                break;
            case 7: int what = about(0, 45);
                same("procession", road.procession(k, what), model.procession(k, what), k, what);
                break;
            case 8: int which = about(0, 3);
                same("count", road.count(which), model.count(which), which);
                break;
            default: for (int i = 0; i < 3; i++) {
                    int c = about(0, corners);
                    same("goes", road.goes(k, c), model.goes(k, c), k, c);
                }
                break;
        }
    }
}
