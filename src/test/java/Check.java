import java.io.IOException;
import java.nio.charset.StandardCharsets;
import java.nio.file.Files;
import java.nio.file.Path;
import java.util.Arrays;

/** What the tests share: telling texts and bytes to an object, and counting answers that are not due. */
final class Check {
    private static final Path DOCUMENT = Path.of("../shared/DOC.md");

    private int wrong;
    private int asked;
    private int sentences;
    private String sentence = "";
    private String document;
    /** How far the document is read. */
    private int at;

    /** A call on an object, and what it answers (true is 1, false 0). */
    interface Call {
        long of(MoonTender x);
    }

    void due(String call, long got, long want) {
        asked++;
        if (got != want) {
            wrong++;
            System.out.println(call + " answered " + got + ", due is " + want + sentence);
        }
    }

    /** The words of the document that the next answers are about; they must stand there just so. */
    void says(String words) {
        sentences++;
        sentence = " (" + words + ")";
        due("the document has these words", document().isEmpty() || document().contains(words), true);
    }

    /** The document is read from this heading on. */
    void readsFrom(String heading) {
        at = document().indexOf(heading);
        due("the document has " + heading, document().isEmpty() || at >= 0, true);
    }

    /** The document goes on with just these words, and the next answers are about them. */
    void reads(String words) {
        sentences++;
        sentence = " (" + words + ")";
        if (document().isEmpty()) {
            return;
        }
        while (at >= 0 && at < document.length() && document.charAt(at) == ' ') {
            at++;
        }
        boolean there = at >= 0 && document.startsWith(words, at);
        due("the document goes on like this", there, true);
        at = there ? at + words.length() : document.indexOf(words) + words.length();
    }

    /** Nothing of the document was left out up to this heading, or its end. */
    void readsUpTo(String heading) {
        sentence = "";
        if (!document().isEmpty()) {
            int end = heading.isEmpty() ? document.length() : document.indexOf(heading);
            boolean all = at >= 0 && at <= end && document.substring(at, end).isBlank();
            due("the document is read up to " + (heading.isEmpty() ? "its end" : heading), all, true);
        }
    }

    /** What the next answers are about, where it is no sentence of the document. */
    void about(String words) {
        sentence = " (" + words + ")";
    }

    /** The document in one line; empty where it can't be read, as the class is tested all the same then. */
    private String document() {
        if (document == null) {
            try {
                document = Files.readString(DOCUMENT).replaceAll("\\s+", " ");
            } catch (IOException e) {
                document = "";
            }
        }
        return document;
    }

    void due(String call, boolean got, boolean want) {
        due(call, got ? 1 : 0, want ? 1 : 0);
    }

    /** Ends the test: exit code 1 if an answer was not due. */
    void finish(String name) {
        String about = sentences > 0 ? " about " + sentences + " sentences" : "";
        System.out.println(name + ": " + asked + " answers" + about + ", " + wrong + " wrong");
        if (wrong > 0) {
            System.exit(1);
        }
    }

    /** The tape holds just these bytes then. */
    static void tape(MoonTender x, int... bytes) {
        x.end(0);
        int[] padded = Arrays.copyOf(bytes, (bytes.length + 19) / 20 * 20);
        for (int i = 0; i < padded.length; i += 20) {
            x.feed(four(padded, i), four(padded, i + 4), four(padded, i + 8), four(padded, i + 12),
                    four(padded, i + 16));
        }
        x.end(bytes.length);
    }

    private static int four(int[] bytes, int i) {
        return (bytes[i] & 255) << 24 | (bytes[i + 1] & 255) << 16 | (bytes[i + 2] & 255) << 8 | bytes[i + 3] & 255;
    }

    static void tape(MoonTender x, String text) {
        byte[] bytes = text.getBytes(StandardCharsets.ISO_8859_1);
        int[] numbers = new int[bytes.length];
        for (int i = 0; i < bytes.length; i++) {
            numbers[i] = bytes[i];
        }
        tape(x, numbers);
    }

    static int sea(MoonTender x, String text) {
        tape(x, text);
        return x.sea();
    }

    /** A new object with this SEA; it must be one. */
    MoonTender sea(String text) {
        MoonTender x = new MoonTender();
        boolean taken = sea(x, text) > 0;
        due("sea() of <" + text + "> with fault " + x.fault(0) + " at " + x.fault(1), taken, true);
        return x;
    }

    /** The bytes ahead of the last one, and the last byte of AN IMAGE that they want. */
    static int[] image(int... ahead) {
        int[] bytes = Arrays.copyOf(ahead, ahead.length + 1);
        int c = 89;
        for (int b : ahead) {
            c = (5 * c + b) % 251;
        }
        bytes[ahead.length] = c;
        return bytes;
    }

    static boolean on(MoonTender x, int... bytes) {
        tape(x, bytes);
        return x.on();
    }

    /** SEEN rows: PLACE, HEIGHT, PLACE, HEIGHT and so on. */
    static int see(MoonTender x, int... rows) {
        int[] bytes = new int[rows.length / 2 * 3];
        for (int i = 0; i < rows.length / 2; i++) {
            bytes[3 * i] = rows[2 * i];
            bytes[3 * i + 1] = rows[2 * i + 1] + 1000 >> 8;
            bytes[3 * i + 2] = rows[2 * i + 1] + 1000 & 255;
        }
        tape(x, bytes);
        return x.see();
    }

    /** All that may be asked about now, to see that a refused call changes nothing. */
    static String all(MoonTender x) {
        StringBuilder s = new StringBuilder();
        for (int what = 0; what <= 11; what++) {
            s.append(x.has(what)).append(' ');
        }
        for (int m = 0; m < 3; m++) {
            for (int what = 0; what <= 5; what++) {
                s.append(x.moon(m, what)).append(' ');
            }
        }
        for (int h = 0; h < 8; h++) {
            for (int what = 0; what <= 9; what++) {
                s.append(x.harbor(h, what)).append(' ');
            }
            for (int m = 0; m < 3; m++) {
                s.append(x.bids(h, m, 0)).append(' ').append(x.bids(h, m, 1)).append(' ');
            }
        }
        for (int what = 0; what <= 2; what++) {
            s.append(x.payers(what)).append(' ');
        }
        return s.toString();
    }

    void same(String call, String got, String want) {
        due(call + " leaves all as it was", got.equals(want), true);
    }

    /** The ^ in a text stands ahead of the byte where the FAULT is; it isn't told. */
    void fault(int code, String marked) {
        int at = marked.indexOf('^');
        MoonTender x = new MoonTender();
        due("sea() of <" + marked + ">", sea(x, marked.replace("^", "")), -1);
        due("fault of <" + marked + ">", x.fault(0), code);
        due("place of the fault of <" + marked + ">", x.fault(1), at);
        due("status(1) of <" + marked + ">", x.status(1), 1);
    }

    /**
     * A call that is refused: its answer, that it is counted under its number and no other one, and that all
     * else is as it was (the FAULT, too, but for a call of sea, which has one of its own).
     */
    void refused(String call, MoonTender x, int kind, long want, Call c) {
        int[] counts = new int[6];
        for (int what = 0; what < 6; what++) {
            counts[what] = x.status(what);
        }
        counts[kind]++;
        String fault = kind == 1 ? "" : x.fault(0) + " at " + x.fault(1);
        String before = everything(x);
        due(call, c.of(x), want);
        for (int what = 0; what < 6; what++) {
            due("status(" + what + ") after " + call, x.status(what), counts[what]);
        }
        same(call, everything(x), before);
        due(call + " leaves the fault", kind == 1 || fault.equals(x.fault(0) + " at " + x.fault(1)), true);
    }

    /** What an object of a small SEA answers, now and ahead; some 200 calls with two MOONS and two HARBORS. */
    static String everything(MoonTender x) {
        StringBuilder s = new StringBuilder();
        for (int what = 0; what <= 11; what++) {
            tell(s, x.has(what));
        }
        for (int m = 0; m < x.has(1); m++) {
            tell(s, x.letter(0, m, 0), x.letter(0, m, 5), x.moon(m, 0), x.moon(m, 1), x.moon(m, 2), x.moon(m, 3),
                    x.moon(m, 4), x.moon(m, 5), x.pull(m, 0), x.pull(m, 3));
        }
        for (int h = 0; h < x.has(2); h++) {
            tell(s, x.letter(1, h, 0), x.letter(1, h, 5));
            for (int what = 0; what <= 9; what++) {
                tell(s, x.harbor(h, what));
            }
            for (int m = 0; m < x.has(1); m++) {
                tell(s, x.bids(h, m, 0), x.bids(h, m, 1), x.rest(10 * h + m), x.wished(h, 21, m));
            }
            tell(s, x.ahead(h, 1, 0), x.ahead(h, 48, 1), x.ahead(h, 9, 2), x.across(0, h, 9), x.latest(h, 0, 9));
        }
        for (int p = 0; p < 4; p++) {
            tell(s, x.height(p, 0), x.height(p, 1), x.height(p, 48));
        }
        tell(s, x.broken(0), x.broken(1), x.broken(2), x.stranded(0, 0), x.stranded(0, 1), x.rest(-1), x.meet(0),
                x.meet(1), x.payers(0), x.payers(1), x.payers(2));
        for (int k = 0; k < 97 && x.octet(k) >= 0; k++) {
            tell(s, x.octet(k));
        }
        return s.toString();
    }

    private static void tell(StringBuilder s, int... answers) {
        for (int answer : answers) {
            s.append(answer).append(' ');
        }
    }

    /** The bytes of AN IMAGE of now, but for the last one. */
    static int[] picture(MoonTender x) {
        int[] bytes = new int[x.image() - 1];
        for (int k = 0; k < bytes.length; k++) {
            bytes[k] = x.octet(k);
        }
        return bytes;
    }

    /** All as it is now, but for these bytes of its IMAGE: whether there is such a one. */
    static boolean with(MoonTender x, int at, int... bytes) {
        int[] image = picture(x);
        System.arraycopy(bytes, 0, image, at, bytes.length);
        return on(x, image(image));
    }

    private static int harborAt(MoonTender x, int harbor) {
        return 2 + 2 * x.has(1) + harbor * (2 + 3 * x.has(1));
    }

    static boolean withHour(MoonTender x, int n) {
        return with(x, 0, n >> 8, n & 255);
    }

    static boolean withPlace(MoonTender x, int moon, int n) {
        return with(x, 2 + 2 * moon, n);
    }

    static boolean withTemper(MoonTender x, int moon, int n) {
        return with(x, 3 + 2 * moon, n);
    }

    static boolean withPurse(MoonTender x, int harbor, int n) {
        return with(x, harborAt(x, harbor), n >> 8, n & 255);
    }

    static boolean withBid(MoonTender x, int harbor, int moon, int n) {
        return with(x, harborAt(x, harbor) + 2 + 3 * moon, n);
    }

    static boolean withDue(MoonTender x, int harbor, int moon, int n) {
        return with(x, harborAt(x, harbor) + 3 + 3 * moon, n >> 8, n & 255);
    }
}
