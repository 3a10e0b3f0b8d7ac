import java.nio.charset.StandardCharsets;
import java.util.Arrays;

/** What the tests share: counting wrong answers, and writing texts on THE TAPE. */
final class Check {
    private int right;
    private int wrong;

    void due(String call, int got, int want) {
        if (got == want) {
            right++;
        } else {
            wrong++;
            System.out.println(call + " answered " + got + ", due is " + want);
        }
    }

    void that(String what, boolean holds) {
        due(what, holds ? 1 : 0, 1);
    }

    boolean isAllRight() {
        return wrong == 0;
    }

    void finish() {
        System.out.println(right + " answers as due, " + wrong + " not");
        if (wrong != 0) {
            System.exit(1);
        }
    }

    /** Puts a text behind THE TAPE of an object. */
    static void write(SaintsRoad x, String text) {
        byte[] bytes = text.getBytes(StandardCharsets.ISO_8859_1);
        int already = x.count(0);
        byte[] padded = Arrays.copyOf(bytes, (bytes.length + 19) / 20 * 20);
        for (int i = 0; i < padded.length; i += 20) {
            x.feed(four(padded, i), four(padded, i + 4), four(padded, i + 8), four(padded, i + 12),
                four(padded, i + 16));
        }
        x.end(already + bytes.length);
    }

    static int four(byte[] bytes, int i) {
        return (bytes[i] & 255) << 24 | (bytes[i + 1] & 255) << 16 | (bytes[i + 2] & 255) << 8
            | bytes[i + 3] & 255;
    }

    /** Reads a text into a PLACE: what calendar() answers. */
    static int tell(SaintsRoad x, int p, String text) {
        x.end(0);
        write(x, text);
        return x.calendar(p);
    }

    /** A new object with a text in PLACE 0. */
    static SaintsRoad with(String text) {
        SaintsRoad x = new SaintsRoad();
        if (tell(x, 0, text) < 0) {
            throw new IllegalStateException("a FAULT " + x.fault(0) + " at " + x.fault(1) + ": " + text);
        }
        return x;
    }

    /** The day of a date in a YEAR. */
    static int day(SaintsRoad x, int year, int month, int date) {
        for (int day = 0; day < 366; day++) {
            if (x.date(year, day, 0) == month && x.date(year, day, 1) == date) {
                return day;
            }
        }
        throw new IllegalStateException("no such date");
    }
}
