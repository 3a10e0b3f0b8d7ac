import java.util.ArrayList;
import java.util.Arrays;
import java.util.Calendar;
import java.util.Collections;
import java.util.Comparator;
import java.util.Date;
import java.util.GregorianCalendar;
import java.util.HashMap;
import java.util.HashSet;
import java.util.List;
import java.util.Map;
import java.util.Set;
import java.util.TimeZone;
import java.util.TreeMap;

/**
 * The document once more, written another way and without any care for speed: ModelTest compares
 * the class with it over runs of chance calls.
 */
final class Model {
    private static final Set<String> QUOTED = new HashSet<>(Arrays.asList("fixed", "moved", "sunday", "rank",
        "vigil", "octave", "from", "till", "yield", "wax", "lent"));

    /** One FEAST. */
    static final class Saint {
        String how;
        String name;
        int one;
        int two;
        int rank;
        final Map<String, Integer> marks = new HashMap<>();
    }

    /** One CALENDAR. */
    static final class Book {
        final List<Saint> saints = new ArrayList<>();
        final Map<Integer, Integer> wax = new HashMap<>();
        int[] yield;
        Integer lent;
    }

    /** A FAULT, thrown where it is come to. */
    static final class Fault extends RuntimeException {
        private static final long serialVersionUID = 1L;
        final int kind;
        final int place;

        Fault(int kind, int place) {
            this.kind = kind;
            this.place = place;
        }
    }

    /** Reads a text by going down its grammar. */
    static final class Text {
        private final String text;
        private final Book book = new Book();
        private int at;
        private int start;
        private String token = "";

        Text(String text) {
            this.text = text;
        }

        Book read() {
            advance();
            while (!token.isEmpty()) {
                line();
                want(";");
            }
            return book;
        }

        private void advance() {
            while (at < text.length() && " \n".indexOf(text.charAt(at)) >= 0) {
                at++;
            }
            start = at;
            for (String run : new String[] {"[a-z]", "[0-9]"}) {
                while (at < text.length() && text.substring(at, at + 1).matches(run)) {
                    at++;
                }
                if (at > start) {
                    break;
                }
            }
            if (at == start && at < text.length()) {
                at++;
            }
            token = text.substring(start, at);
        }

        private void need(boolean holds, int kind) {
            if (!holds) {
                throw new Fault(kind, start);
            }
        }

        private void want(String one) {
            need(token.equals(one), 1);
            advance();
        }

        private int number(int least, int most) {
            need(token.matches("[0-9]{1,4}"), 1);
            int value = Integer.parseInt(token);
            need(value >= least && value <= most, 3);
            return value;
        }

        private int pass(int least, int most) {
            int value = number(least, most);
            advance();
            return value;
        }

        private void line() {
            switch (token) {
                case "fixed":
                case "moved":
                case "sunday":
                    saint();
                    break;
                case "yield":
                    need(book.yield == null, 5);
                    advance();
                    book.yield = new int[] {pass(1, 8), pass(0, 30)};
                    break;
                case "wax":
                    advance();
                    int rank = number(1, 8);
                    need(!book.wax.containsKey(rank), 5);
                    advance();
                    book.wax.put(rank, pass(0, 9999));
                    break;
                case "lent":
                    need(book.lent == null, 5);
                    advance();
                    book.lent = pass(0, 90);
                    break;
                default:
                    need(false, 1);
            }
        }

        private void saint() {
            need(book.saints.size() < 60, 4);
            Saint s = new Saint();
            s.how = token;
            advance();
            if (s.how.equals("fixed")) {
                s.one = pass(1, 12);
                s.two = pass(1, s.one == 2 ? 29 : s.one == 4 || s.one == 6 || s.one == 9 || s.one == 11 ? 30 : 31);
            } else if (s.how.equals("sunday")) {
                s.one = pass(1, 5);
                s.two = pass(1, 12);
            } else {
                boolean minus = token.equals("-");
                if (minus) {
                    advance();
                }
                s.one = pass(0, 90) * (minus ? -1 : 1);
            }
            want("rank");
            s.rank = pass(1, 8);
            need(token.matches("[a-z]{1,12}") && !QUOTED.contains(token), 1);
            for (Saint other : book.saints) {
                need(!other.name.equals(token), 2);
            }
            s.name = token;
            advance();
            marks(s);
            need(token.equals(";"), 1);
            book.saints.add(s);
        }

        private void marks(Saint s) {
            while (Arrays.asList("vigil", "octave", "from", "till").contains(token)) {
                String mark = token;
                need(!s.marks.containsKey(mark), 5);
                advance();
                int value = 1;
                if (mark.equals("from")) {
                    value = number(1, 2000);
                    need(value <= s.marks.getOrDefault("till", 2000), 5);
                    advance();
                } else if (mark.equals("till")) {
                    value = number(1, 2000);
                    need(value >= s.marks.getOrDefault("from", 1), 5);
                    advance();
                }
                s.marks.put(mark, value);
            }
        }
    }

    /** One PROCESSION: CORNERS and the minutes of the STREETS between them. */
    static final class March {
        final List<Integer> corners = new ArrayList<>();
        final List<Integer> minutes = new ArrayList<>();
        int begins;
        int tail;

        int head(int i) {
            int sum = begins;
            for (int s = 0; s < i; s++) {
                sum += minutes.get(s);
            }
            return sum;
        }

        boolean isAt(int corner, int minute) {
            for (int i = 0; i < corners.size(); i++) {
                if (corners.get(i) == corner && minute >= head(i) && minute <= head(i) + tail) {
                    return true;
                }
            }
            return false;
        }

        boolean isIn(int from, int to, int minute) {
            for (int i = 0; i + 1 < corners.size(); i++) {
                boolean goes = corners.get(i) == from && corners.get(i + 1) == to;
                if (goes && minute >= head(i) && minute <= head(i + 1) + tail) {
                    return true;
                }
            }
            return false;
        }

        int last() {
            return head(corners.size() - 1) + tail;
        }

        boolean meetsAt(March other, int minute) {
            for (int i = 0; i < corners.size(); i++) {
                int here = corners.get(i);
                if (isAt(here, minute) && other.isAt(here, minute)) {
                    return true;
                }
                if (i + 1 < corners.size()) {
                    int there = corners.get(i + 1);
                    if (isIn(here, there, minute) && other.isIn(there, here, minute)) {
                        return true;
                    }
                }
            }
            return false;
        }

        int meeting(March other) {
            int till = Math.min(last(), other.last());
            for (int minute = Math.max(begins, other.begins); minute <= till; minute++) {
                if (meetsAt(other, minute)) {
                    return minute;
                }
            }
            return -1;
        }
    }

    private final StringBuilder tape = new StringBuilder();
    private final Book[] books = {new Book(), new Book(), new Book(), new Book()};
    private final Set<Set<Integer>> quarrels = new HashSet<>();
    private final Map<Set<Integer>, Integer> streets = new HashMap<>();
    private final Map<Integer, March> marches = new TreeMap<>();
    private List<int[]> turns = new ArrayList<>();
    private int faultKind;
    private int faultPlace = -1;

    int feed(int... ints) {
        if (tape.length() > 3980) {
            return -3;
        }
        for (int four : ints) {
            for (int i = 3; i >= 0; i--) {
                tape.append((char) (four >>> 8 * i & 255));
            }
        }
        return tape.length();
    }

    int end(int n) {
        if (n < 0 || n > tape.length()) {
            return -1;
        }
        tape.setLength(n);
        return n;
    }

    int calendar(int p) {
        if (p < 0 || p > 3) {
            return -2;
        }
        String text = tape.toString();
        tape.setLength(0);
        faultKind = 0;
        faultPlace = -1;
        try {
            books[p] = new Text(text).read();
            return books[p].saints.size();
        } catch (Fault f) {
            faultKind = f.kind;
            faultPlace = f.place;
            return -1;
        }
    }

    int fault(int what) {
        return what == 0 ? faultKind : what == 1 ? faultPlace : -1;
    }

    private Saint saint(int p, int f) {
        if (p < 0 || p > 3 || f < 0 || f >= books[p].saints.size()) {
            return null;
        }
        return books[p].saints.get(f);
    }

    int feast(int p, int f, int what) {
        Saint s = saint(p, f);
        if (s == null || what < 0 || what > 6 && what < 10 || what >= 10 + (long) s.name.length()) {
            return -1;
        }
        if (what >= 10) {
            return s.name.charAt(what - 10);
        }
        int[] row = {Arrays.asList("fixed", "moved", "sunday").indexOf(s.how), s.rank,
            s.marks.getOrDefault("vigil", 0), s.marks.getOrDefault("octave", 0), s.marks.getOrDefault("from", 1),
            s.marks.getOrDefault("till", 2000), s.name.length()};
        return row[what];
    }

    private static boolean isYear(int year) {
        return year >= 1 && year <= 2000;
    }

    private static GregorianCalendar at(int year, int day) {
        GregorianCalendar c = new GregorianCalendar(TimeZone.getTimeZone("UTC"));
        c.setGregorianChange(new Date(Long.MAX_VALUE));
        c.clear();
        c.set(year, 0, 1, 12, 0, 0);
        c.add(Calendar.DAY_OF_YEAR, day);
        return c;
    }

    private static int yearLength(int year) {
        return at(year, 0).getActualMaximum(Calendar.DAY_OF_YEAR);
    }

    private static boolean isDay(int year, int day) {
        return isYear(year) && day >= 0 && day < yearLength(year);
    }

    /** The well-known reckoning of Meeus. */
    int easter(int year) {
        if (!isYear(year)) {
            return -2;
        }
        int d = (19 * (year % 19) + 15) % 30;
        int e = (2 * (year % 4) + 4 * (year % 7) - d + 34) % 7;
        return dayOf(year, (d + e + 114) / 31, (d + e + 114) % 31 + 1);
    }

    private static int dayOf(int year, int month, int date) {
        GregorianCalendar c = at(year, 0);
        c.set(year, month - 1, date);
        return c.get(Calendar.MONTH) == month - 1 ? c.get(Calendar.DAY_OF_YEAR) - 1 : -10;
    }

    int date(int year, int day, int what) {
        if (!isDay(year, day)) {
            return -1;
        }
        GregorianCalendar c = at(year, day);
        switch (what) {
            case 0: return c.get(Calendar.MONTH) + 1;
            case 1: return c.get(Calendar.DAY_OF_MONTH);
            case 2: return c.get(Calendar.DAY_OF_WEEK) - 1;
            default: return -1;
        }
    }

    private boolean isSunday(int year, int day) {
        return at(year, day).get(Calendar.DAY_OF_WEEK) == Calendar.SUNDAY;
    }

    private int ownDay(Saint s, int year) {
        if (year < s.marks.getOrDefault("from", 1) || year > s.marks.getOrDefault("till", 2000)) {
            return -10;
        }
        if (s.how.equals("fixed")) {
            return dayOf(year, s.one, s.two);
        }
        if (s.how.equals("moved")) {
            int day = easter(year) + s.one;
            return isDay(year, day) ? day : -10;
        }
        int seen = 0;
        for (int date = 1; date <= 31; date++) {
            int day = dayOf(year, s.two, date);
            if (day >= 0 && isSunday(year, day) && ++seen == s.one) {
                return day;
            }
        }
        return -10;
    }

    /** The FEAST held on each day (-1), day by day; those LOST are nowhere. */
    private int[] heldDays(Book book, int year) {
        int[] held = new int[yearLength(year)];
        Arrays.fill(held, -1);
        List<int[]> moved = new ArrayList<>();
        int[] own = new int[book.saints.size()];
        for (int f = 0; f < own.length; f++) {
            own[f] = ownDay(book.saints.get(f), year);
        }
        for (int day = 0; day < held.length; day++) {
            List<int[]> here = moved;
            for (int f = 0; f < own.length; f++) {
                if (own[f] == day) {
                    here.add(new int[] {f, 0});
                }
            }
            here.sort(Comparator.<int[]>comparingInt(h -> book.saints.get(h[0]).rank).thenComparingInt(h -> h[0]));
            moved = new ArrayList<>();
            for (int i = 0; i < here.size(); i++) {
                int[] h = here.get(i);
                if (i == 0) {
                    held[day] = h[0];
                } else if (book.yield != null && book.saints.get(h[0]).rank <= book.yield[0] && h[1] < book.yield[1]) {
                    moved.add(new int[] {h[0], h[1] + 1});
                }
            }
        }
        return held;
    }

    private int[] offices(Book book, int year) {
        int[] held = heldDays(book, year);
        int[] offices = held.clone();
        int octave = -1;
        int since = 99;
        for (int day = 0; day < held.length; day++) {
            since++;
            if (held[day] < 0) {
                offices[day] = since <= 7 ? -20 - octave : isSunday(year, day) ? -11 : -10;
            } else if (book.saints.get(held[day]).marks.containsKey("octave")) {
                octave = held[day];
                since = 0;
            }
        }
        return offices;
    }

    int office(int p, int year, int day) {
        return p < 0 || p > 3 || !isDay(year, day) ? -2 : offices(books[p], year)[day];
    }

    int held(int p, int year, int f) {
        int own = own(p, year, f);
        if (own < 0) {
            return own;
        }
        int[] held = heldDays(books[p], year);
        for (int day = 0; day < held.length; day++) {
            if (held[day] == f) {
                return day;
            }
        }
        return -1;
    }

    int own(int p, int year, int f) {
        Saint s = saint(p, f);
        return s == null || !isYear(year) ? -2 : ownDay(s, year);
    }

    int fast(int p, int year, int day) {
        if (p < 0 || p > 3 || !isDay(year, day)) {
            return -2;
        }
        Set<Integer> fasts = new HashSet<>();
        int easter = easter(year);
        for (int n = 1; books[p].lent != null && n <= books[p].lent; n++) {
            if (!isSunday(year, easter - n)) {
                fasts.add(easter - n);
            }
        }
        int[] held = heldDays(books[p], year);
        for (int d = 0; d < held.length; d++) {
            if (held[d] >= 0 && books[p].saints.get(held[d]).marks.containsKey("vigil")) {
                fasts.add(isSunday(year, d - 1) ? d - 2 : d - 1);
            }
        }
        return fasts.contains(day) ? 1 : 0;
    }

    int wax(int p, int year, int from, int to) {
        if (p < 0 || p > 3 || !isDay(year, from) || !isDay(year, to) || from > to) {
            return -2;
        }
        int[] offices = offices(books[p], year);
        int sum = 0;
        for (int day = from; day <= to; day++) {
            int o = offices[day];
            int f = o >= 0 ? o : o <= -20 ? -20 - o : -1;
            int whole = f < 0 ? 0 : books[p].wax.getOrDefault(books[p].saints.get(f).rank, 0);
            sum += o >= 0 ? whole : whole / 4;
        }
        return sum;
    }

    int next(int p, int year, int day, int r) {
        if (p < 0 || p > 3 || !isDay(year, day) || r < 1 || r > 8) {
            return -2;
        }
        for (int y = year; y <= 2000 && y < year + 30; y++) {
            int[] held = heldDays(books[p], y);
            for (int d = y == year ? day : 0; d < held.length; d++) {
                if (held[d] >= 0 && books[p].saints.get(held[d]).rank <= r) {
                    return 1000 * y + d;
                }
            }
        }
        return -1;
    }

    private static String said(Book book, int office) {
        if (office >= 0) {
            return "feast " + book.saints.get(office).name;
        }
        return office <= -20 ? "octave " + book.saints.get(-20 - office).name : "day " + office;
    }

    int unlike(int p, int q, int year) {
        if (p < 0 || p > 3 || q < 0 || q > 3 || !isYear(year)) {
            return -2;
        }
        int[] here = offices(books[p], year);
        int[] there = offices(books[q], year);
        int days = 0;
        for (int d = 0; d < here.length; d++) {
            days += said(books[p], here[d]).equals(said(books[q], there[d])) ? 0 : 1;
        }
        return days;
    }

    private static Set<Integer> two(int a, int b) {
        return new HashSet<>(Arrays.asList(a, b));
    }

    int quarrel(int a, int b, boolean on) {
        if (a < 0 || a > 9 || b < 0 || b > 9 || a == b) {
            return -2;
        }
        return (on ? quarrels.add(two(a, b)) : quarrels.remove(two(a, b))) ? 1 : 0;
    }

    int rota(int p, int from, int to, int r, int set) {
        if (p < 0 || p > 3 || !isYear(from) || !isYear(to) || from > to || to - from + 1 > 20 || r < 1 || r > 8
            || set < 1 || set > 1023) {
            return -2;
        }
        turns = new ArrayList<>();
        long[] millis = {0};
        for (int year = from; year <= to; year++) {
            int[] held = heldDays(books[p], year);
            for (int day = 0; day < held.length; day++) {
                if (held[day] >= 0 && books[p].saints.get(held[day]).rank <= r) {
                    long now = at(year, day).getTimeInMillis();
                    boolean near = !turns.isEmpty() && now - millis[0] <= 7L * 24 * 3600 * 1000;
                    turns.add(new int[] {year, day, held[day], carrier(set, near)});
                    millis[0] = now;
                }
            }
        }
        return turns.size();
    }

    private int carrier(int set, boolean near) {
        List<Integer> all = new ArrayList<>();
        List<Integer> peaceful = new ArrayList<>();
        for (int b = 0; b < 10; b++) {
            if ((set >> b & 1) == 1) {
                all.add(b);
                if (!near || !quarrels.contains(two(b, turns.get(turns.size() - 1)[3]))) {
                    peaceful.add(b);
                }
            }
        }
        List<Integer> choice = peaceful.isEmpty() ? all : peaceful;
        return Collections.min(choice,
            Comparator.<Integer>comparingInt(this::carried).thenComparingInt(this::latest).thenComparingInt(b -> b));
    }

    private int latest(int b) {
        int latest = -1;
        for (int k = 0; k < turns.size(); k++) {
            latest = turns.get(k)[3] == b ? k : latest;
        }
        return latest;
    }

    int turn(int k, int what) {
        return k < 0 || k >= turns.size() || k >= 600 || what < 0 || what > 3 ? -1 : turns.get(k)[what];
    }

    int carried(int b) {
        if (b < 0 || b > 9) {
            return -2;
        }
        int sum = 0;
        for (int[] turn : turns) {
            sum += turn[3] == b ? 1 : 0;
        }
        return sum;
    }

    int street(int a, int b, int minutes) {
        if (a < 0 || a > 19 || b < 0 || b > 19 || a == b || minutes < 0 || minutes > 60) {
            return -2;
        }
        Integer old = minutes == 0 ? streets.remove(two(a, b)) : streets.put(two(a, b), minutes);
        return old == null ? 0 : old;
    }

    int begin(int k, int corner, int minute, int tail) {
        if (k < 0 || k > 11 || corner < 0 || corner > 19 || minute < 0 || minute > 1440 || tail < 0 || tail > 30) {
            return -2;
        }
        March m = new March();
        m.corners.add(corner);
        m.begins = minute;
        m.tail = tail;
        marches.put(k, m);
        return 1;
    }

    int goes(int k, int corner) {
        March m = marches.get(k);
        if (m == null || corner < 0 || corner > 19) {
            return -2;
        }
        Integer minutes = streets.get(two(m.corners.get(m.corners.size() - 1), corner));
        if (minutes == null) {
            return -1;
        }
        if (m.corners.size() == 12) {
            return -3;
        }
        m.corners.add(corner);
        m.minutes.add(minutes);
        return m.corners.size();
    }

    int late(int k, int minutes) {
        March m = marches.get(k);
        if (m == null || minutes < 1 || minutes > 300 || m.begins + minutes > 1440) {
            return -2;
        }
        m.begins += minutes;
        return m.begins;
    }

    int procession(int k, int what) {
        March m = marches.get(k);
        if (m == null) {
            return -1;
        }
        if (what >= 0 && what <= 2) {
            return new int[] {m.corners.size(), m.begins, m.last()}[what];
        }
        for (int i = 0; i < m.corners.size(); i++) {
            if (what == 10 + i) {
                return m.corners.get(i);
            }
            if (what == 30 + i) {
                return m.head(i);
            }
        }
        return -1;
    }

    private March whole(int k) {
        March m = marches.get(k);
        return m != null && m.corners.size() >= 2 ? m : null;
    }

    int meets() {
        for (int a = 0; a < 12; a++) {
            for (int b = a + 1; b < 12; b++) {
                if (meeting(a, b) >= 0) {
                    return 100 * a + b;
                }
            }
        }
        return -1;
    }

    int meeting(int a, int b) {
        return whole(a) == null || whole(b) == null || a == b ? -2 : whole(a).meeting(whole(b));
    }

    int timed(int k, int minute) {
        March m = whole(k);
        if (m == null || minute < 0 || minute > 1440) {
            return -2;
        }
        int was = m.begins;
        int found = -1;
        for (int at = minute; at <= 1440 && found < 0; at++) {
            m.begins = at;
            boolean free = true;
            for (int other = 0; other < 12 && free; other++) {
                free = other == k || whole(other) == null || m.meeting(whole(other)) < 0;
            }
            found = free ? at : -1;
        }
        m.begins = was;
        return found;
    }

    int count(int what) {
        switch (what) {
            case 0: return tape.length();
            case 1: return streets.size();
            case 2: return quarrels.size();
            case 3: return marches.size();
            case 10: case 11: case 12: case 13: return books[what - 10].saints.size();
            default: return -1;
        }
    }
}
