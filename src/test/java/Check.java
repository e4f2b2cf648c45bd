import java.nio.charset.StandardCharsets;
import java.util.Arrays;

/** What the tests share: telling texts and bytes to an object, and counting answers that are not due. */
final class Check {
    private int wrong;
    private int asked;

    void due(String call, long got, long want) {
        asked++;
        if (got != want) {
            wrong++;
            System.out.println(call + " answered " + got + ", due is " + want);
        }
    }

    void due(String call, boolean got, boolean want) {
        due(call, got ? 1 : 0, want ? 1 : 0);
    }

    /** Ends the test: exit code 1 if an answer was not due. */
    void finish(String name) {
        System.out.println(name + ": " + asked + " answers, " + wrong + " wrong");
        if (wrong > 0) {
            System.exit(1);
        }
    }

    /** The tape holds just these bytes then. */
    static void tape(MoonTender x, int... bytes) {
        x.end(0);
        int[] padded = Arrays.copyOf(bytes, (bytes.length + 19) / 20 * 20);
        for (int i = 0; i < padded.length; i += 20) {
            x.feed(four(padded, i), four(padded, i + 4), four(padded, i + 8), four(padded, i + 12),
                    four(padded, i + 16));
        }
        x.end(bytes.length);
    }

    private static int four(int[] bytes, int i) {
        return (bytes[i] & 255) << 24 | (bytes[i + 1] & 255) << 16 | (bytes[i + 2] & 255) << 8 | bytes[i + 3] & 255;
    }

    static void tape(MoonTender x, String text) {
        byte[] bytes = text.getBytes(StandardCharsets.ISO_8859_1);
        int[] numbers = new int[bytes.length];
        for (int i = 0; i < bytes.length; i++) {
            numbers[i] = bytes[i];
        }
        tape(x, numbers);
    }

    static int sea(MoonTender x, String text) {
        tape(x, text);
        return x.sea();
    }

    /** A new object with this SEA; it must be one. */
    MoonTender sea(String text) {
        MoonTender x = new MoonTender();
        boolean taken = sea(x, text) > 0;
        due("sea() of <" + text + "> with fault " + x.fault(0) + " at " + x.fault(1), taken, true);
        return x;
    }

    /** The bytes ahead of the last one, and the last byte of AN IMAGE that they want. */
    static int[] image(int... ahead) {
        int[] bytes = Arrays.copyOf(ahead, ahead.length + 1);
        int c = 89;
        for (int b : ahead) {
            c = (5 * c + b) % 251;
        }
        bytes[ahead.length] = c;
        return bytes;
    }

    static boolean on(MoonTender x, int... bytes) {
        tape(x, bytes);
        return x.on();
    }

    /** SEEN rows: PLACE, HEIGHT, PLACE, HEIGHT and so on. */
    static int see(MoonTender x, int... rows) {
        int[] bytes = new int[rows.length / 2 * 3];
        for (int i = 0; i < rows.length / 2; i++) {
            bytes[3 * i] = rows[2 * i];
            bytes[3 * i + 1] = rows[2 * i + 1] + 1000 >> 8;
            bytes[3 * i + 2] = rows[2 * i + 1] + 1000 & 255;
        }
        tape(x, bytes);
        return x.see();
    }

    /** All that may be asked about now, to see that a refused call changes nothing. */
    static String all(MoonTender x) {
        StringBuilder s = new StringBuilder();
        for (int what = 0; what <= 11; what++) {
            s.append(x.has(what)).append(' ');
        }
        for (int m = 0; m < 3; m++) {
            for (int what = 0; what <= 5; what++) {
                s.append(x.moon(m, what)).append(' ');
            }
        }
        for (int h = 0; h < 8; h++) {
            for (int what = 0; what <= 9; what++) {
                s.append(x.harbor(h, what)).append(' ');
            }
            for (int m = 0; m < 3; m++) {
                s.append(x.bids(h, m, 0)).append(' ').append(x.bids(h, m, 1)).append(' ');
            }
        }
        for (int what = 0; what <= 2; what++) {
            s.append(x.payers(what)).append(' ');
        }
        return s.toString();
    }

    void same(String call, String got, String want) {
        due(call + " leaves all as it was", got.equals(want), true);
    }
}
