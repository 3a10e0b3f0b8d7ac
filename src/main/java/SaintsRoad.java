import java.util.Arrays;

/**
 * A diocese's year of feasts, the brotherhoods that carry at them and the processions that go
 * through its streets. Words in capitals are those of the document (shared/DOC.md).
 *
 * All rows are made with the object and used again: no call makes an object.
 */
public final class SaintsRoad {
    public static final int NONE = -1;
    public static final int RANGE = -2;
    public static final int FULL = -3;

    private static final int NOT_IN = -10;
    private static final int FERIA = -10;
    private static final int SUNDAY_OFFICE = -11;
    private static final int OCTAVE_OFFICE = -20;

    private static final int PLACES = 4;
    private static final int LAST_YEAR = 2000;
    private static final int LONGEST_YEAR = 366;
    private static final int TAPE_ROOM = 4000;
    private static final int FEAST_ROOM = 60;
    private static final int WORD_ROOM = 12;
    private static final int NUMBER_ROOM = 4;
    private static final int RANKS = 8;
    private static final int YEARS_LOOKED_THROUGH = 30;
    private static final int YEARS_OF_ROTA = 20;
    private static final int BROTHERHOODS = 10;
    private static final int ALL_BROTHERHOODS = 1023;
    private static final int TURNS_TOLD = 600;
    private static final int QUARREL_DAYS = 7;
    private static final int OCTAVE_DAYS = 7;
    private static final int CORNERS = 20;
    private static final int LONGEST_STREET = 60;
    private static final int PROCESSIONS = 12;
    private static final int CORNER_ROOM = 12;
    private static final int LAST_BEGIN = 1440;
    private static final int LONGEST_TAIL = 30;
    private static final int MOST_LATE = 300;

    private final Tape tape;
    private final Reader reader;
    private final Place[] places;
    private final Brotherhoods brotherhoods;
    private final Town town;
    /** What a text is read into, so that a FAULT leaves the PLACE's CALENDAR as it was. */
    private Calendar spare;

    public SaintsRoad() {
        tape = new Tape();
        reader = new Reader();
        places = new Place[PLACES];
        for (int p = 0; p < PLACES; p++) {
            places[p] = new Place();
        }
        brotherhoods = new Brotherhoods();
        town = new Town();
        spare = new Calendar();
    }

    public int feed(int a, int b, int c, int d, int e) {
        if (tape.length + 20 > TAPE_ROOM) {
            return FULL;
        }
        tape.addInt(a);
        tape.addInt(b);
        tape.addInt(c);
        tape.addInt(d);
        tape.addInt(e);
        return tape.length;
    }

    public int end(int n) {
        if (n < 0 || n > tape.length) {
            return NONE;
        }
        tape.length = n;
        return n;
    }

    // ---- calendars

    public int calendar(int p) {
        if (!isPlace(p)) {
            return RANGE;
        }
        boolean sound = reader.readText(tape, spare);
        tape.length = 0;
        if (!sound) {
            return NONE;
        }
        spare = places[p].exchange(spare);
        return places[p].calendar.size;
    }

    public int fault(int what) {
        switch (what) {
            case 0: return reader.faultKind;
            case 1: return reader.faultPlace;
            default: return NONE;
        }
    }

    public int feast(int p, int f, int what) {
        if (!isFeast(p, f)) {
            return NONE;
        }
        return places[p].calendar.feasts[f].tell(what);
    }

    public int easter(int year) {
        return Days.isYear(year) ? Days.easterOf(year) : RANGE;
    }

    public int date(int year, int day, int what) {
        if (!Days.isDay(year, day)) {
            return NONE;
        }
        int month = Days.monthOf(year, day);
        switch (what) {
            case 0: return month;
            case 1: return day - Days.monthStart(year, month) + 1;
            case 2: return Days.weekday(year, day);
            default: return NONE;
        }
    }

    // ---- the year

    public int office(int p, int year, int day) {
        if (!isPlace(p) || !Days.isDay(year, day)) {
            return RANGE;
        }
        places[p].settle(year);
        return places[p].officeOf(day);
    }

    public int held(int p, int year, int f) {
        if (!isFeast(p, f) || !Days.isYear(year)) {
            return RANGE;
        }
        places[p].settle(year);
        return places[p].heldDay[f];
    }

    public int own(int p, int year, int f) {
        if (!isFeast(p, f) || !Days.isYear(year)) {
            return RANGE;
        }
        return places[p].calendar.feasts[f].ownDayIn(year, Days.easterOf(year));
    }

    public int fast(int p, int year, int day) {
        if (!isPlace(p) || !Days.isDay(year, day)) {
            return RANGE;
        }
        places[p].settle(year);
        return places[p].isFast(day) ? 1 : 0;
    }

    public int wax(int p, int year, int from, int to) {
        if (!isPlace(p) || !Days.isDay(year, from) || !Days.isDay(year, to) || from > to) {
            return RANGE;
        }
        Place place = places[p];
        place.settle(year);
        int burnt = 0;
        for (int day = from; day <= to; day++) {
            burnt += place.waxOf(day);
        }
        return burnt;
    }

    public int next(int p, int year, int day, int r) {
        if (!isPlace(p) || !Days.isDay(year, day) || !isRank(r)) {
            return RANGE;
        }
        Place place = places[p];
        int last = Math.min(LAST_YEAR, year + YEARS_LOOKED_THROUGH - 1);
        for (int y = year; y <= last; y++) {
            place.settle(y);
            int found = place.firstHeld(y == year ? day : 0, r);
            if (found >= 0) {
                return 1000 * y + found;
            }
        }
        return NONE;
    }

    public int unlike(int p, int q, int year) {
        if (!isPlace(p) || !isPlace(q) || !Days.isYear(year)) {
            return RANGE;
        }
        places[p].settle(year);
        places[q].settle(year);
        int days = Days.length(year);
        int unlikeDays = 0;
        for (int day = 0; day < days; day++) {
            if (!places[p].isAlike(places[q], day)) {
                unlikeDays++;
            }
        }
        return unlikeDays;
    }

    // ---- brotherhoods

    public int quarrel(int a, int b, boolean on) {
        if (!isBrotherhood(a) || !isBrotherhood(b) || a == b) {
            return RANGE;
        }
        return brotherhoods.setQuarrel(a, b, on) ? 1 : 0;
    }

    public int rota(int p, int from, int to, int r, int set) {
        if (!isPlace(p) || !isRank(r) || set < 1 || set > ALL_BROTHERHOODS) {
            return RANGE;
        }
        if (!Days.isYear(from) || !Days.isYear(to) || from > to || to - from >= YEARS_OF_ROTA) {
            return RANGE;
        }
        brotherhoods.startTurns(set);
        for (int year = from; year <= to; year++) {
            places[p].settle(year);
            carryAll(places[p], year, r);
        }
        return brotherhoods.turns;
    }

    public int turn(int k, int what) {
        return brotherhoods.tellTurn(k, what);
    }

    public int carried(int b) {
        return isBrotherhood(b) ? brotherhoods.carriedBy[b] : RANGE;
    }

    // ---- processions

    public int street(int a, int b, int minutes) {
        if (!isCorner(a) || !isCorner(b) || a == b || minutes < 0 || minutes > LONGEST_STREET) {
            return RANGE;
        }
        return town.setStreet(a, b, minutes);
    }

    public int begin(int k, int corner, int minute, int tail) {
        if (!isProcession(k) || !isCorner(corner) || !isBeginning(minute)) {
            return RANGE;
        }
        if (tail < 0 || tail > LONGEST_TAIL) {
            return RANGE;
        }
        town.processions[k].start(corner, minute, tail);
        return 1;
    }

    public int goes(int k, int corner) {
        if (!isLong(k, 1) || !isCorner(corner)) {
            return RANGE;
        }
        Procession procession = town.processions[k];
        int minutes = town.minutesBetween(procession.lastCorner(), corner);
        if (minutes == 0) {
            return NONE;
        }
        return procession.goOn(corner, minutes) ? procession.size : FULL;
    }

    public int late(int k, int minutes) {
        if (!isLong(k, 1) || minutes < 1 || minutes > MOST_LATE) {
            return RANGE;
        }
        Procession procession = town.processions[k];
        if (procession.beginning + minutes > LAST_BEGIN) {
            return RANGE;
        }
        procession.beginning += minutes;
        return procession.beginning;
    }

    public int procession(int k, int what) {
        return isLong(k, 1) ? town.processions[k].tell(what) : NONE;
    }

    public int meets() {
        for (int a = 0; a < PROCESSIONS; a++) {
            for (int b = a + 1; b < PROCESSIONS; b++) {
                if (meeting(a, b) >= 0) {
                    return 100 * a + b;
                }
            }
        }
        return NONE;
    }

    public int meeting(int a, int b) {
        if (!isLong(a, 2) || !isLong(b, 2) || a == b) {
            return RANGE;
        }
        return town.processions[a].firstMeeting(town.processions[b]);
    }

    public int timed(int k, int minute) {
        if (!isLong(k, 2) || !isBeginning(minute)) {
            return RANGE;
        }
        return town.firstFree(k, minute);
    }

    public int count(int what) {
        switch (what) {
            case 0: return tape.length;
            case 1: return town.streetCount;
            case 2: return brotherhoods.quarrelCount;
            case 3: return town.begunCount();
            default: return what >= 10 && isPlace(what - 10) ? places[what - 10].calendar.size : NONE;
        }
    }

    /** Carries what is HELD in a YEAR for which the PLACE is settled. */
    private void carryAll(Place place, int year, int r) {
        int days = Days.length(year);
        for (int day = 0; day < days; day++) {
            Feast feast = place.feastHeldOn(day);
            if (feast != null && feast.rank <= r) {
                brotherhoods.carry(year, day, place.heldOn[day]);
            }
        }
    }

    private boolean isFeast(int p, int f) {
        return isPlace(p) && f >= 0 && f < places[p].calendar.size;
    }

    /** Whether procession k is there and has so many CORNERS or more. */
    private boolean isLong(int k, int corners) {
        return isProcession(k) && town.processions[k].size >= corners;
    }

    private static boolean isPlace(int p) {
        return p >= 0 && p < PLACES;
    }

    private static boolean isRank(int r) {
        return r >= 1 && r <= RANKS;
    }

    private static boolean isBrotherhood(int b) {
        return b >= 0 && b < BROTHERHOODS;
    }

    private static boolean isCorner(int corner) {
        return corner >= 0 && corner < CORNERS;
    }

    private static boolean isProcession(int k) {
        return k >= 0 && k < PROCESSIONS;
    }

    private static boolean isBeginning(int minute) {
        return minute >= 0 && minute <= LAST_BEGIN;
    }

    /** The reckoning of YEARS, months and EASTER. */
    private static final class Days {
        private static final int SATURDAY = 6;
        private static final int FEBRUARY = 2;
        private static final int MARCH = 3;
        private static final int[] MONTH_AT_MOST = {31, 29, 31, 30, 31, 30, 31, 31, 30, 31, 30, 31};
        /** Of a YEAR without a 29th of February. */
        private static final int[] MONTH_START = {0, 31, 59, 90, 120, 151, 181, 212, 243, 273, 304, 334};

        static boolean isYear(int year) {
            return year >= 1 && year <= LAST_YEAR;
        }

        static boolean isDay(int year, int day) {
            return isYear(year) && day >= 0 && day < length(year);
        }

        static boolean isLeap(int year) {
            return year % 4 == 0;
        }

        static int length(int year) {
            return isLeap(year) ? LONGEST_YEAR : LONGEST_YEAR - 1;
        }

        /** How many days all the YEARS ahead of one have. */
        static int daysAhead(int year) {
            return 365 * (year - 1) + (year - 1) / 4;
        }

        static int weekday(int year, int day) {
            return (SATURDAY + daysAhead(year) + day) % 7;
        }

        static boolean isSunday(int year, int day) {
            return weekday(year, day) == 0;
        }

        static int mostDaysOf(int month) {
            return month >= 1 && month <= 12 ? MONTH_AT_MOST[month - 1] : 0;
        }

        static int monthLength(int year, int month) {
            return month == FEBRUARY && !isLeap(year) ? 28 : mostDaysOf(month);
        }

        static int monthStart(int year, int month) {
            if (month < 1 || month > 12) {
                return 0;
            }
            return MONTH_START[month - 1] + (month > FEBRUARY && isLeap(year) ? 1 : 0);
        }

        static int monthOf(int year, int day) {
            int month = 1;
            while (month < 12 && day >= monthStart(year, month + 1)) {
                month++;
            }
            return month;
        }

        static int easterOf(int year) {
            int d = (19 * (year % 19) + 15) % 30;
            int moon = monthStart(year, MARCH) + 20 + d;
            return moon + 7 - weekday(year, moon);
        }

        /** The K-th Sunday of a month, or NOT_IN when there isn't a fifth one. */
        static int sundayOf(int year, int month, int k) {
            int start = monthStart(year, month);
            int first = start + (7 - weekday(year, start)) % 7;
            int day = first + 7 * (k - 1);
            return day < start + monthLength(year, month) ? day : NOT_IN;
        }
    }

    /** THE TAPE. */
    private static final class Tape {
        final byte[] bytes = new byte[TAPE_ROOM];
        int length;

        void addInt(int four) {
            if (length + 4 > TAPE_ROOM) {
                return;
            }
            for (int shift = 24; shift >= 0; shift -= 8) {
                bytes[length] = (byte) (four >> shift);
                length++;
            }
        }

        /** The byte at a place as 0 .. 255, or NONE behind the end. */
        int byteAt(int place) {
            return place >= 0 && place < length ? bytes[place] & 255 : NONE;
        }
    }

    /** One FEAST as its line tells it. */
    private static final class Feast {
        static final int FIXED = 0;
        static final int MOVED = 1;
        static final int SUNDAY = 2;
        /** What is taken from a small letter so that a is 1, and no letter 0. */
        private static final int BEHIND_LETTERS = 'a' - 1;

        /** Five bits a letter, the first letter lowest: names are alike when these are. */
        long name;
        int letterCount;
        int kind;
        int month;
        int date;
        int shift;
        int week;
        int rank;
        boolean vigil;
        boolean octave;
        int from;
        int till;

        void clear(int newKind) {
            kind = newKind;
            vigil = false;
            octave = false;
            from = 1;
            till = LAST_YEAR;
        }

        void setName(Tape tape, int start, int length) {
            name = 0;
            letterCount = length;
            for (int i = length - 1; i >= 0; i--) {
                name = name << 5 | tape.byteAt(start + i) - BEHIND_LETTERS;
            }
        }

        private int letter(int i) {
            return i >= 0 && i < letterCount ? (int) (name >> 5 * i & 31) + BEHIND_LETTERS : NONE;
        }

        int tell(int what) {
            switch (what) {
                case 0: return kind;
                case 1: return rank;
                case 2: return vigil ? 1 : 0;
                case 3: return octave ? 1 : 0;
                case 4: return from;
                case 5: return till;
                case 6: return letterCount;
                default: return what >= 10 ? letter(what - 10) : NONE;
            }
        }

        /** Its OWN day, or NOT_IN. */
        int ownDayIn(int year, int easterDay) {
            if (year < from || year > till) {
                return NOT_IN;
            }
            switch (kind) {
                case FIXED: return fixedDay(year);
                case MOVED: return Days.isDay(year, easterDay + shift) ? easterDay + shift : NOT_IN;
                default: return Days.sundayOf(year, month, week);
            }
        }

        private int fixedDay(int year) {
            boolean there = date <= Days.monthLength(year, month);
            return there ? Days.monthStart(year, month) + date - 1 : NOT_IN;
        }
    }

    /** What a CALENDAR's text tells. */
    private static final class Calendar {
        final Feast[] feasts = new Feast[FEAST_ROOM];
        /** By R; NONE where no wax is told. */
        final int[] waxByRank = new int[RANKS + 1];
        int size;
        /** 0 without yield: no R is so low. */
        int yieldRank;
        int yieldTimes;
        /** NONE without lent, which then has no day at all. */
        int lent;

        Calendar() {
            for (int f = 0; f < FEAST_ROOM; f++) {
                feasts[f] = new Feast();
            }
            lent = NONE;
            Arrays.fill(waxByRank, NONE);
        }

        void clear() {
            size = 0;
            yieldRank = 0;
            yieldTimes = 0;
            lent = NONE;
            Arrays.fill(waxByRank, NONE);
        }

        boolean hasName(long name) {
            for (int f = 0; f < size; f++) {
                if (feasts[f].name == name) {
                    return true;
                }
            }
            return false;
        }

        int waxOfRank(int rank) {
            return isRank(rank) ? Math.max(0, waxByRank[rank]) : 0;
        }
    }

    /**
     * Reads a CALENDAR's text TOKEN by TOKEN: the state says which TOKENS a text can go on with, so
     * that the first FAULT come to is the one told.
     */
    private static final class Reader {
        private static final int SYNTAX = 1;
        private static final int NAME_TAKEN = 2;
        private static final int OUT_OF_BOUNDS = 3;
        private static final int ROOM = 4;
        private static final int TWICE = 5;

        private static final int END = 0;
        private static final int BAD = 1;
        private static final int NUMBER = 2;
        private static final int MINUS = 3;
        private static final int SEMICOLON = 4;
        private static final int NAME = 5;
        private static final int FIXED = 10;
        private static final int MOVED = 11;
        private static final int SUNDAY = 12;
        private static final int RANK = 13;
        private static final int VIGIL = 14;
        private static final int OCTAVE = 15;
        private static final int FROM = 16;
        private static final int TILL = 17;
        private static final int YIELD = 18;
        private static final int WAX = 19;
        private static final int LENT = 20;

        private static final int AT_LINE = 0;
        private static final int AT_MINUS_OR_SHIFT = 1;
        private static final int AT_RANK_WORD = 2;
        private static final int AT_NAME = 3;
        private static final int AT_MARKS = 4;
        private static final int AT_SEMICOLON = 5;
        private static final int AT_MONTH = 10;
        private static final int AT_DATE = 11;
        private static final int AT_SHIFT = 12;
        private static final int AT_WEEK = 13;
        private static final int AT_SUNDAY_MONTH = 14;
        private static final int AT_RANK = 15;
        private static final int AT_FROM = 16;
        private static final int AT_TILL = 17;
        private static final int AT_YIELD_RANK = 18;
        private static final int AT_YIELD_TIMES = 19;
        private static final int AT_WAX_RANK = 20;
        private static final int AT_WAX = 21;
        private static final int AT_LENT = 22;

        int faultKind;
        int faultPlace = NONE;

        private Tape tape;
        private Calendar calendar;
        /** The FEAST of the line at hand; it counts only from its ; on. */
        private Feast feast;
        private int state;
        private int at;
        private int token;
        private int start;
        private int value;
        private boolean ahead;
        private int marks;
        private int waxRank;

        /** Whether the text is without a FAULT; else the calendar is of no use. */
        boolean readText(Tape text, Calendar into) {
            tape = text;
            calendar = into;
            calendar.clear();
            feast = calendar.feasts[0];
            state = AT_LINE;
            at = 0;
            faultKind = 0;
            faultPlace = NONE;
            boolean open = true;
            for (int tokens = 0; open && tokens <= TAPE_ROOM; tokens++) {
                readToken();
                open = token != END || state != AT_LINE;
                if (open) {
                    faultKind = takeToken();
                    open = faultKind == 0;
                }
            }
            if (faultKind != 0) {
                faultPlace = start;
            }
            return faultKind == 0;
        }

        private void readToken() {
            while (at < tape.length && isBlank(tape.byteAt(at))) {
                at++;
            }
            start = at;
            int first = tape.byteAt(at);
            if (first == NONE) {
                token = END;
            } else if (isLetter(first)) {
                readWord();
            } else if (isDigit(first)) {
                readNumber();
            } else {
                at++;
                token = first == '-' ? MINUS : first == ';' ? SEMICOLON : BAD;
            }
        }

        private void readWord() {
            while (at < tape.length && isLetter(tape.byteAt(at))) {
                at++;
            }
            token = at - start > WORD_ROOM ? BAD : wordToken();
        }

        private void readNumber() {
            value = 0;
            while (at < tape.length && isDigit(tape.byteAt(at))) {
                // A run that is too long is refused below, so its wrapped value is never used.
                value = 10 * value + tape.byteAt(at) - '0';
                at++;
            }
            token = at - start > NUMBER_ROOM ? BAD : NUMBER;
        }

        private int wordToken() {
            for (int word = FIXED; word <= LENT; word++) {
                if (isAtStart(quoted(word))) {
                    return word;
                }
            }
            return NAME;
        }

        private boolean isAtStart(String word) {
            if (word.length() != at - start) {
                return false;
            }
            for (int i = 0; i < word.length(); i++) {
                if (tape.byteAt(start + i) != word.charAt(i)) {
                    return false;
                }
            }
            return true;
        }

        private static String quoted(int word) {
            switch (word) {
                case FIXED: return "fixed";
                case MOVED: return "moved";
                case SUNDAY: return "sunday";
                case RANK: return "rank";
                case VIGIL: return "vigil";
                case OCTAVE: return "octave";
                case FROM: return "from";
                case TILL: return "till";
                case YIELD: return "yield";
                case WAX: return "wax";
                case LENT: return "lent";
                default: return "";
            }
        }

        /** Takes the TOKEN at hand: the KIND of its FAULT, or 0. */
        private int takeToken() {
            switch (state) {
                case AT_LINE: return takeLineWord();
                case AT_MINUS_OR_SHIFT: return takeMinusOrShift();
                case AT_RANK_WORD: return pass(RANK, AT_RANK);
                case AT_NAME: return takeName();
                case AT_MARKS: return takeMark();
                case AT_SEMICOLON: return pass(SEMICOLON, AT_LINE);
                default: return takeNumber();
            }
        }

        private int pass(int wanted, int then) {
            if (token != wanted) {
                return SYNTAX;
            }
            return goTo(then);
        }

        private int goTo(int then) {
            state = then;
            return 0;
        }

        private int takeLineWord() {
            switch (token) {
                case FIXED: return startFeast(Feast.FIXED, AT_MONTH);
                case MOVED: return startFeast(Feast.MOVED, AT_MINUS_OR_SHIFT);
                case SUNDAY: return startFeast(Feast.SUNDAY, AT_WEEK);
                case YIELD: return calendar.yieldRank != 0 ? TWICE : goTo(AT_YIELD_RANK);
                case WAX: return goTo(AT_WAX_RANK);
                case LENT: return calendar.lent != NONE ? TWICE : goTo(AT_LENT);
                default: return SYNTAX;
            }
        }

        private int startFeast(int kind, int then) {
            if (calendar.size >= FEAST_ROOM) {
                return ROOM;
            }
            feast = calendar.feasts[calendar.size];
            feast.clear(kind);
            marks = 0;
            return goTo(then);
        }

        private int takeMinusOrShift() {
            state = AT_SHIFT;
            ahead = token == MINUS;
            return ahead ? 0 : takeNumber();
        }

        private int takeName() {
            if (token != NAME) {
                return SYNTAX;
            }
            feast.setName(tape, start, at - start);
            if (calendar.hasName(feast.name)) {
                return NAME_TAKEN;
            }
            return goTo(AT_MARKS);
        }

        private int takeMark() {
            if (token == SEMICOLON) {
                calendar.size++;
                return goTo(AT_LINE);
            }
            if (token < VIGIL || token > TILL) {
                return SYNTAX;
            }
            int mark = 1 << (token - VIGIL);
            if ((marks & mark) != 0) {
                return TWICE;
            }
            marks |= mark;
            switch (token) {
                case VIGIL: feast.vigil = true; return 0;
                case OCTAVE: feast.octave = true; return 0;
                case FROM: return goTo(AT_FROM);
                default: return goTo(AT_TILL);
            }
        }

        private int takeNumber() {
            if (token != NUMBER) {
                return SYNTAX;
            }
            if (value < leastNumber() || value > mostNumber()) {
                return OUT_OF_BOUNDS;
            }
            return state <= AT_TILL ? keepFeastNumber() : keepOtherNumber();
        }

        private int leastNumber() {
            switch (state) {
                case AT_SHIFT:
                case AT_YIELD_TIMES:
                case AT_WAX:
                case AT_LENT: return 0;
                default: return 1;
            }
        }

        private int mostNumber() {
            switch (state) {
                case AT_MONTH:
                case AT_SUNDAY_MONTH: return 12;
                case AT_DATE: return Days.mostDaysOf(feast.month);
                case AT_SHIFT:
                case AT_LENT: return 90;
                case AT_WEEK: return 5;
                case AT_FROM:
                case AT_TILL: return LAST_YEAR;
                case AT_YIELD_TIMES: return 30;
                case AT_WAX: return 9999;
                default: return RANKS;
            }
        }

        private int keepFeastNumber() {
            switch (state) {
                case AT_MONTH: feast.month = value; return goTo(AT_DATE);
                case AT_DATE: feast.date = value; return goTo(AT_RANK_WORD);
                case AT_SHIFT: feast.shift = ahead ? -value : value; return goTo(AT_RANK_WORD);
                case AT_WEEK: feast.week = value; return goTo(AT_SUNDAY_MONTH);
                case AT_SUNDAY_MONTH: feast.month = value; return goTo(AT_RANK_WORD);
                case AT_RANK: feast.rank = value; return goTo(AT_NAME);
                case AT_FROM: feast.from = value; break;
                default: feast.till = value; break;
            }
            return feast.from > feast.till ? TWICE : goTo(AT_MARKS);
        }

        private int keepOtherNumber() {
            switch (state) {
                case AT_YIELD_RANK: calendar.yieldRank = value; return goTo(AT_YIELD_TIMES);
                case AT_YIELD_TIMES: calendar.yieldTimes = value; return goTo(AT_SEMICOLON);
                case AT_WAX_RANK:
                    waxRank = value;
                    return calendar.waxByRank[waxRank] != NONE ? TWICE : goTo(AT_WAX);
                case AT_WAX: calendar.waxByRank[waxRank] = value; return goTo(AT_SEMICOLON);
                default: calendar.lent = value; return goTo(AT_SEMICOLON);
            }
        }

        private static boolean isBlank(int b) {
            return b == 32 || b == 10;
        }

        private static boolean isLetter(int b) {
            return b >= 'a' && b <= 'z';
        }

        private static boolean isDigit(int b) {
            return b >= '0' && b <= '9';
        }
    }

    /** A PLACE: its CALENDAR, and the OFFICES of the YEAR that was asked for last. */
    private static final class Place {
        final int[] heldDay = new int[FEAST_ROOM];
        /** The FEAST HELD on each day, or NONE. */
        final int[] heldOn = new int[LONGEST_YEAR];
        Calendar calendar = new Calendar();

        private final int[] ownDay = new int[FEAST_ROOM];
        private final int[] timesMoved = new int[FEAST_ROOM];
        /** The FEASTS IN the YEAR by their OWN days. */
        private final int[] byOwnDay = new int[FEAST_ROOM];
        /** The FEASTS that would be held on the day at hand. */
        private final int[] waiting = new int[FEAST_ROOM];
        private int inYear;
        private int easterDay;
        private int waitingCount;
        /** 0 while no YEAR is settled. */
        private int settledYear;

        /** Takes a CALENDAR and gives back the one that was. */
        Calendar exchange(Calendar fresh) {
            Calendar old = calendar;
            calendar = fresh;
            settledYear = 0;
            return old;
        }

        /** Finds what is HELD in a YEAR, unless that is known still. */
        void settle(int year) {
            if (year == settledYear) {
                return;
            }
            settledYear = year;
            easterDay = Days.easterOf(year);
            Arrays.fill(heldOn, NONE);
            waitingCount = 0;
            sortByOwnDay(year);
            int days = Days.length(year);
            int come = 0;
            for (int day = 0; day < days && (come < inYear || waitingCount > 0); day++) {
                while (come < inYear && ownDay[byOwnDay[come]] == day) {
                    waiting[waitingCount] = byOwnDay[come];
                    waitingCount++;
                    come++;
                }
                if (waitingCount > 0) {
                    holdBest(day);
                    moveOthersOn();
                }
            }
        }

        private void sortByOwnDay(int year) {
            inYear = 0;
            for (int f = 0; f < calendar.size; f++) {
                ownDay[f] = calendar.feasts[f].ownDayIn(year, easterDay);
                heldDay[f] = ownDay[f] < 0 ? NOT_IN : NONE;
                timesMoved[f] = 0;
                if (ownDay[f] >= 0) {
                    insertByOwnDay(f);
                }
            }
        }

        private void insertByOwnDay(int f) {
            int slot = inYear;
            while (slot > 0 && ownDay[byOwnDay[slot - 1]] > ownDay[f]) {
                byOwnDay[slot] = byOwnDay[slot - 1];
                slot--;
            }
            byOwnDay[slot] = f;
            inYear++;
        }

        private void holdBest(int day) {
            int best = waiting[0];
            for (int i = 1; i < waitingCount; i++) {
                if (isAbove(waiting[i], best)) {
                    best = waiting[i];
                }
            }
            heldOn[day] = best;
            heldDay[best] = day;
        }

        private boolean isAbove(int f, int g) {
            int rankOfF = calendar.feasts[f].rank;
            int rankOfG = calendar.feasts[g].rank;
            return rankOfF < rankOfG || rankOfF == rankOfG && f < g;
        }

        /** What the YEAR's last day moves on is LOST: heldDay has said so from the first. */
        private void moveOthersOn() {
            int kept = 0;
            for (int i = 0; i < waitingCount; i++) {
                int f = waiting[i];
                if (heldDay[f] < 0 && canYield(f)) {
                    timesMoved[f]++;
                    waiting[kept] = f;
                    kept++;
                }
            }
            waitingCount = kept;
        }

        private boolean canYield(int f) {
            return calendar.feasts[f].rank <= calendar.yieldRank
                && timesMoved[f] < calendar.yieldTimes;
        }

        /** The FEAST HELD on a day, or null; days beyond the YEAR hold none. */
        Feast feastHeldOn(int day) {
            if (day < 0 || day >= LONGEST_YEAR || heldOn[day] < 0) {
                return null;
            }
            return calendar.feasts[heldOn[day]];
        }

        int officeOf(int day) {
            if (feastHeldOn(day) != null) {
                return heldOn[day];
            }
            for (int back = 1; back <= OCTAVE_DAYS; back++) {
                Feast earlier = feastHeldOn(day - back);
                if (earlier != null && earlier.octave) {
                    return OCTAVE_OFFICE - heldOn[day - back];
                }
            }
            return Days.isSunday(settledYear, day) ? SUNDAY_OFFICE : FERIA;
        }

        boolean isFast(int day) {
            boolean sunday = Days.isSunday(settledYear, day);
            return !sunday && isInLent(day) || isVigil(day, sunday);
        }

        private boolean isInLent(int day) {
            return day < easterDay && day >= easterDay - calendar.lent;
        }

        private boolean isVigil(int day, boolean sunday) {
            if (!sunday && hasVigil(day + 1)) {
                return true;
            }
            return Days.isSunday(settledYear, day + 1) && hasVigil(day + 2);
        }

        private boolean hasVigil(int day) {
            Feast feast = feastHeldOn(day);
            return feast != null && feast.vigil;
        }

        int waxOf(int day) {
            int said = officeOf(day);
            Feast feast = feastOf(said);
            if (feast == null) {
                return 0;
            }
            int whole = calendar.waxOfRank(feast.rank);
            return said >= 0 ? whole : whole / 4;
        }

        /** The FEAST that an OFFICE is of, or in whose OCTAVE it is; null of a FERIA or SUNDAY. */
        private Feast feastOf(int said) {
            int f = said <= OCTAVE_OFFICE ? OCTAVE_OFFICE - said : said;
            return f >= 0 && f < calendar.size ? calendar.feasts[f] : null;
        }

        /** The first day from one on on which a FEAST of R not above r is HELD, or NONE. */
        int firstHeld(int fromDay, int r) {
            int first = NONE;
            for (int f = 0; f < calendar.size; f++) {
                boolean fits = heldDay[f] >= fromDay && calendar.feasts[f].rank <= r;
                if (fits && (first < 0 || heldDay[f] < first)) {
                    first = heldDay[f];
                }
            }
            return first;
        }

        /** Whether a day's OFFICE is the same in another PLACE; both are settled for one YEAR. */
        boolean isAlike(Place other, int day) {
            int here = officeOf(day);
            int there = other.officeOf(day);
            Feast ours = feastOf(here);
            Feast theirs = other.feastOf(there);
            if (ours == null || theirs == null) {
                return here == there;
            }
            return (here >= 0) == (there >= 0) && ours.name == theirs.name;
        }
    }

    /** The BROTHERHOODS: their QUARRELS, and the turns of the latest rota(). */
    private static final class Brotherhoods {
        final int[] carriedBy = new int[BROTHERHOODS];
        int quarrelCount;
        int turns;

        /** A bit for each one that a BROTHERHOOD has a QUARREL with. */
        private final int[] quarrels = new int[BROTHERHOODS];
        private final int[] latestTurn = new int[BROTHERHOODS];
        private final int[] yearOf = new int[TURNS_TOLD];
        private final int[] dayOf = new int[TURNS_TOLD];
        private final int[] feastOf = new int[TURNS_TOLD];
        private final int[] carrierOf = new int[TURNS_TOLD];
        private int set;
        private int latestCarrier;
        /** Counted from the first day of YEAR 1 on. */
        private int latestDay;

        /** Whether it was otherwise. */
        boolean setQuarrel(int a, int b, boolean on) {
            boolean was = (quarrels[a] >> b & 1) != 0;
            if (was == on) {
                return false;
            }
            quarrels[a] ^= 1 << b;
            quarrels[b] ^= 1 << a;
            quarrelCount += on ? 1 : -1;
            return true;
        }

        void startTurns(int newSet) {
            set = newSet;
            turns = 0;
            latestCarrier = NONE;
            Arrays.fill(carriedBy, 0);
            Arrays.fill(latestTurn, NONE);
        }

        void carry(int year, int day, int feast) {
            int today = Days.daysAhead(year) + day;
            int carrier = fairest(allowed(today));
            if (carrier < 0) {
                return;
            }
            if (turns < TURNS_TOLD) {
                yearOf[turns] = year;
                dayOf[turns] = day;
                feastOf[turns] = feast;
                carrierOf[turns] = carrier;
            }
            carriedBy[carrier]++;
            latestTurn[carrier] = turns;
            latestCarrier = carrier;
            latestDay = today;
            turns++;
        }

        /** Those of the set that may carry today for their QUARRELS. */
        private int allowed(int today) {
            if (latestCarrier < 0 || today - latestDay > QUARREL_DAYS) {
                return set;
            }
            int peaceful = set & ~quarrels[latestCarrier];
            return peaceful != 0 ? peaceful : set;
        }

        private int fairest(int choice) {
            int best = NONE;
            for (int b = 0; b < BROTHERHOODS; b++) {
                if ((choice >> b & 1) != 0 && (best < 0 || isFairer(b, best))) {
                    best = b;
                }
            }
            return best;
        }

        private boolean isFairer(int b, int than) {
            if (carriedBy[b] != carriedBy[than]) {
                return carriedBy[b] < carriedBy[than];
            }
            return latestTurn[b] < latestTurn[than];
        }

        int tellTurn(int k, int what) {
            if (k < 0 || k >= turns || k >= TURNS_TOLD) {
                return NONE;
            }
            switch (what) {
                case 0: return yearOf[k];
                case 1: return dayOf[k];
                case 2: return feastOf[k];
                case 3: return carrierOf[k];
                default: return NONE;
            }
        }
    }

    /** The STREETS and the PROCESSIONS in them. */
    private static final class Town {
        final Procession[] processions = new Procession[PROCESSIONS];
        int streetCount;

        /** The minutes from a CORNER to another, both ways; 0: no STREET. */
        private final int[] minutes = new int[CORNERS * CORNERS];
        /** How many hindrances begin at a minute, less those that have ended the minute ahead. */
        private final int[] hindrances = new int[LAST_BEGIN + 2];

        Town() {
            for (int k = 0; k < PROCESSIONS; k++) {
                processions[k] = new Procession();
            }
        }

        int minutesBetween(int a, int b) {
            return isCorner(a) && isCorner(b) ? minutes[CORNERS * a + b] : 0;
        }

        /** What the STREET had. */
        int setStreet(int a, int b, int newMinutes) {
            int old = minutesBetween(a, b);
            minutes[CORNERS * a + b] = newMinutes;
            minutes[CORNERS * b + a] = newMinutes;
            streetCount += Integer.compare(newMinutes, 0) - Integer.compare(old, 0);
            return old;
        }

        int begunCount() {
            int begun = 0;
            for (int k = 0; k < PROCESSIONS; k++) {
                if (processions[k].size > 0) {
                    begun++;
                }
            }
            return begun;
        }

        /** The first minute from one on at which a PROCESSION could begin and MEET none. */
        int firstFree(int k, int minute) {
            Arrays.fill(hindrances, 0);
            for (int other = 0; other < PROCESSIONS; other++) {
                if (other != k && processions[other].size >= 2) {
                    processions[k].addHindrances(processions[other], hindrances);
                }
            }
            int open = 0;
            for (int m = 0; m <= LAST_BEGIN; m++) {
                open += hindrances[m];
                if (m >= minute && open == 0) {
                    return m;
                }
            }
            return NONE;
        }
    }

    /**
     * A PROCESSION. Its way is told in stretches: those of even numbers are its CORNERS, those of
     * odd ones the STREETS between, so that one pair of loops finds all ways to MEET.
     */
    private static final class Procession {
        /** 0 until it is begun. */
        int size;
        int beginning;

        private final int[] corners = new int[CORNER_ROOM];
        /** The minutes from the beginning to its head's coming to each CORNER. */
        private final int[] reached = new int[CORNER_ROOM];
        private int tail;

        void start(int corner, int minute, int newTail) {
            size = 1;
            corners[0] = corner;
            reached[0] = 0;
            beginning = minute;
            tail = newTail;
        }

        int lastCorner() {
            return size >= 1 && size <= CORNER_ROOM ? corners[size - 1] : NONE;
        }

        /** Whether there was room for one CORNER more. */
        boolean goOn(int corner, int minutes) {
            if (size < 1 || size >= CORNER_ROOM) {
                return false;
            }
            corners[size] = corner;
            reached[size] = reached[size - 1] + minutes;
            size++;
            return true;
        }

        int tell(int what) {
            switch (what) {
                case 0: return size;
                case 1: return beginning;
                case 2: return size > 0 ? beginning + comes(stretches() - 1) + tail : NONE;
                default: return tellCorner(what);
            }
        }

        private int tellCorner(int what) {
            if (what >= 10 && what - 10 < size) {
                return corners[what - 10];
            }
            if (what >= 30 && what - 30 < size) {
                return beginning + reached[what - 30];
            }
            return NONE;
        }

        private int stretches() {
            return 2 * size - 1;
        }

        /** The minutes from the beginning to the head's coming into a stretch. */
        private int comes(int stretch) {
            return reached[stretch / 2];
        }

        /** The minutes from the beginning to the tail's leaving a stretch. */
        private int leaves(int stretch) {
            return reached[(stretch + 1) / 2] + tail;
        }

        /** Whether it could MEET another one on a stretch of its own and one of that, both CORNERS or both STREETS. */
        private boolean crosses(int mine, Procession other, int its) {
            return corners[mine / 2] == other.corners[(its + 1) / 2]
                && corners[(mine + 1) / 2] == other.corners[its / 2];
        }

        /** The first minute at which two MEET, or NONE. */
        int firstMeeting(Procession other) {
            int first = NONE;
            for (int mine = 0; mine < stretches(); mine++) {
                for (int its = mine % 2; its < other.stretches(); its += 2) {
                    int minute = crosses(mine, other, its) ? firstShared(mine, other, its) : NONE;
                    if (minute >= 0 && (first < 0 || minute < first)) {
                        first = minute;
                    }
                }
            }
            return first;
        }

        private int firstShared(int mine, Procession other, int its) {
            int bothIn = Math.max(beginning + comes(mine), other.beginning + other.comes(its));
            int oneOut = Math.min(beginning + leaves(mine), other.beginning + other.leaves(its));
            return bothIn <= oneOut ? bothIn : NONE;
        }

        /** Marks the minutes at which this one must not begin for the other's sake. */
        void addHindrances(Procession other, int[] hindrances) {
            for (int mine = 0; mine < stretches(); mine++) {
                for (int its = mine % 2; its < other.stretches(); its += 2) {
                    if (crosses(mine, other, its)) {
                        int from = other.beginning + other.comes(its) - leaves(mine);
                        int till = other.beginning + other.leaves(its) - comes(mine);
                        addHindrance(hindrances, Math.max(0, from), Math.min(LAST_BEGIN, till));
                    }
                }
            }
        }

        private static void addHindrance(int[] hindrances, int from, int till) {
            if (from >= 0 && from <= till && till + 1 < hindrances.length) {
                hindrances[from]++;
                hindrances[till + 1]--;
            }
        }
    }
}
