import java.io.IOException;
import java.nio.charset.StandardCharsets;
import java.nio.file.Files;
import java.nio.file.Path;
import java.nio.file.Paths;
import java.util.Arrays;
import java.util.function.IntUnaryOperator;

/** What the tests share: counting wrong answers by the document's sentences, and writing texts on THE TAPE. */
final class Check {
    private static final Path DOCUMENT = Paths.get("../shared/DOC.md");

    private final String document = readDocument();
    private String sentence = "";
    private int sentences;
    private int right;
    private int wrong;

    private static String readDocument() {
        try {
            return Files.exists(DOCUMENT) ? new String(Files.readAllBytes(DOCUMENT), StandardCharsets.UTF_8) : null;
        } catch (IOException e) {
            return null;
        }
    }

    /** The document's words that the answers from here on hold it to; they must stand in it. */
    void says(String words) {
        sentence = "[" + words + "] ";
        sentences++;
        that("the document has these words", document == null || document.contains(words));
    }

    void due(String call, int got, int want) {
        if (got == want) {
            right++;
        } else {
            wrong++;
            System.out.println(sentence + call + " answered " + got + ", due is " + want);
        }
    }

    void that(String what, boolean holds) {
        due(what, holds ? 1 : 0, 1);
    }

    /** That a call takes numbers from least to most, both too, and answers others with refused. */
    void bounds(String what, int least, int most, int refused, IntUnaryOperator call) {
        for (int n : new int[] {least, most}) {
            that(what + " takes " + n, call.applyAsInt(n) != refused);
        }
        for (int n : new int[] {least - 1, most + 1, Integer.MIN_VALUE, Integer.MAX_VALUE}) {
            due(what + " of " + n, call.applyAsInt(n), refused);
        }
    }

    boolean isAllRight() {
        return wrong == 0;
    }

    void finish() {
        System.out.println((sentences > 0 ? sentences + " sentences: " : "") + right + " answers as due, " + wrong
            + " not");
        if (wrong != 0) {
            System.exit(1);
        }
    }

    /** Puts a text behind THE TAPE of an object. */
    static void write(SaintsRoad x, String text) {
        byte[] bytes = text.getBytes(StandardCharsets.ISO_8859_1);
        int already = x.count(0);
        byte[] padded = Arrays.copyOf(bytes, (bytes.length + 19) / 20 * 20);
        for (int i = 0; i < padded.length; i += 20) {
            x.feed(four(padded, i), four(padded, i + 4), four(padded, i + 8), four(padded, i + 12),
                four(padded, i + 16));
        }
        x.end(already + bytes.length);
    }

    static int four(byte[] bytes, int i) {
        return (bytes[i] & 255) << 24 | (bytes[i + 1] & 255) << 16 | (bytes[i + 2] & 255) << 8
            | bytes[i + 3] & 255;
    }

    /** Reads a text into a PLACE: what calendar() answers. */
    static int tell(SaintsRoad x, int p, String text) {
        x.end(0);
        write(x, text);
        return x.calendar(p);
    }

    /** A new object with a text in PLACE 0. */
    static SaintsRoad with(String text) {
        SaintsRoad x = new SaintsRoad();
        if (tell(x, 0, text) < 0) {
            throw new IllegalStateException("a FAULT " + x.fault(0) + " at " + x.fault(1) + ": " + text);
        }
        return x;
    }

    /** Lines of FEASTS with names aa, ab, .. on so many days of January and February from the first on. */
    static String daily(int feasts, int rank) {
        StringBuilder text = new StringBuilder();
        for (int f = 0; f < feasts; f++) {
            text.append("fixed ").append(f < 31 ? "1 " + (f + 1) : "2 " + (f - 30)).append(" rank ").append(rank)
                .append(' ').append((char) ('a' + f / 26)).append((char) ('a' + f % 26)).append(";");
        }
        return text.toString();
    }
}
