import java.util.ArrayList;
import java.util.List;

/**
 * All full (1600 bytes, 80 STATEMENTS, 24 PLACES, 3 MOONS, 8 HARBORS, 16 DEBTS, 6 CLAUSES, 20 ACTS) and nothing there:
 * whatever is asked, up to the first arguments that can't be on each side, the class answers as the plain Model.
 */
public final class FullTest {
    private static final Check CHECK = new Check();
    /** An object is asked so often alone, as the document promises nothing behind its 512th call. */
    private static final int MOST_CALLS = 512;

    /** The class and the Model, told the same. */
    private static final class Pair {
        final MoonTender real = new MoonTender();
        final Model model = new Model();
        int calls;

        void same(String call, long got, long want) {
            calls++;
            CHECK.due(call, got, want);
        }

        void same(String call, boolean got, boolean want) {
            same(call, got ? 1 : 0, want ? 1 : 0);
        }

        void tape(int... bytes) {
            for (int i = 0; i < bytes.length; i += 20) {
                int[] five = new int[5];
                for (int k = 0; k < 20; k++) {
                    five[k / 4] = five[k / 4] << 8 | (i + k < bytes.length ? bytes[i + k] & 255 : 0);
                }
                same("feed", real.feed(five[0], five[1], five[2], five[3], five[4]), model.feed(five));
            }
            same("end", real.end(bytes.length), model.end(bytes.length));
        }

        void sea(String text) {
            tape(text.chars().toArray());
            same("sea", real.sea(), model.sea());
            same("fault", real.fault(0), 0);
        }

        void on(int... ahead) {
            tape(Check.image(ahead));
            same("on", real.on(), model.on());
        }
    }

    private interface State {
        void make(Pair p);
    }

    private interface Question {
        void ask(Pair p);
    }

    public static void main(String[] args) {
        String full = full();
        CHECK.due("bytes of the full sea", full.length(), 1600);
        Pair counted = new Pair();
        counted.sea(full);
        int[] has = {24, 3, 8, 16, 6, 97, 900};
        for (int what = 0; what < has.length; what++) {
            CHECK.due("of the full sea: has(" + what + ")", counted.real.has(what), has[what]);
        }
        CHECK.due("statements of the full sea", full.chars().filter(c -> c == ';').count(), 80);
        answers("full", p -> p.sea(full));
        answers("full, hours gone by", p -> {
            p.sea(full);
            p.same("hours", p.real.hours(200), p.model.hours(200));
            p.same("storms", p.real.storms(100), p.model.storms(100));
        });
        answers("full, twenty acts", p -> {
            p.sea(full);
            twentyActs(p);
        });
        answers("full, all of it the most", p -> {
            p.sea(full);
            p.on(most());
        });
        answers("nothing", p -> { });
        answers("an empty sea", p -> p.sea("sea 4;"));
        answers("moons alone", p -> p.sea("sea 5;moon a at 4 goes 3 temper 7;moon b at 1 goes 1 temper 2;pull temper-far;earns 9;"));
        answers("harbors alone", p -> p.sea("sea 5;harbor a at 4 purse 3 depth 21;harbor b at 0 purse 8 depth 2;owes a b 4;"
                + "clause purse<70;pull 7;earns place;"));
        CHECK.finish("FullTest");
    }

    private static char letter(int i) {
        return (char) ('a' + i);
    }

    /** As much as a text can hold, every HARBOR and MOON unlike the others. */
    private static String full() {
        StringBuilder s = new StringBuilder("sea 24;");
        for (int m = 0; m < 3; m++) {
            s.append("moon m").append(letter(m)).append(" at ").append(23 - 5 * m).append(" goes ").append(23 - 2 * m)
                    .append(" temper ").append(9 - m).append(';');
        }
        for (int h = 0; h < 8; h++) {
            s.append("harbor h").append(letter(h)).append(" at ").append(23 - 3 * h).append(" purse ").append(900 + 11 * h)
                    .append(" depth ").append(99 - h).append(';');
        }
        for (int i = 0; i < 16; i++) {
            s.append("owes h").append(letter(i % 8)).append(" h").append(letter((i + 1 + i / 8) % 8)).append(' ')
                    .append(900 + 9 * (i * 7 % 11)).append(';');
        }
        for (int i = 0; i < 24; i++) {
            s.append("pays h").append(letter(i / 3)).append(" m").append(letter(i % 3)).append(' ').append(i * 5 % 21).append(';');
        }
        for (int c = 0; c < 5; c++) {
            s.append("clause 1<2;");
        }
        s.append("clause place>2 or hour<4;earns height/9+place;pull (paid-far*3)%40+temper-rival/9-sulks*9;");
        s.append("level 97;sulk 900;");
        String many = "sulk 900;".repeat(80 - (int) s.chars().filter(c -> c == ';').count());
        s.append(many);
        return s.append(" ".repeat(Math.max(0, 1600 - s.length()))).toString();
    }

    private static void twentyActs(Pair p) {
        for (int i = 0; i < 22; i++) {
            int h = i % 8;
            int m = i % 3;
            switch (i % 4) {
                case 0: p.same("bid", p.real.bid(h, m, i % 21), p.model.bid(h, m, i % 21)); break;
                case 1: p.same("give", p.real.give(h, 7 - h, 3 + i), p.model.give(h, 7 - h, 3 + i)); break;
                case 2: p.same("soothe", p.real.soothe(m, i % 10), p.model.soothe(m, i % 10)); break;
                default: p.same("hours", p.real.hours(1 + i), p.model.hours(1 + i)); break;
            }
        }
        for (int i = 0; i < 5; i++) {
            p.same("undo", p.real.undo(), p.model.undo());
        }
    }

    /** HOUR 9951, full purses but one, all DUE that can be but from one HARBOR, bids of 20. */
    private static int[] most() {
        int[] image = new int[2 + 6 + 8 * 11];
        two(image, 0, 9951);
        for (int m = 0; m < 3; m++) {
            image[2 + 2 * m] = 23 - m;
            image[3 + 2 * m] = 9;
        }
        for (int h = 0; h < 8; h++) {
            int at = 8 + 11 * h;
            two(image, at, h == 3 ? 0 : 9999);
            for (int m = 0; m < 3; m++) {
                image[at + 2 + 3 * m] = 20;
                two(image, at + 3 + 3 * m, h == 5 ? m : 9999 - h);
            }
        }
        return image;
    }

    private static void two(int[] image, int at, int n) {
        image[at] = n >> 8;
        image[at + 1] = n & 255;
    }

    /** Asks all questions, of a new object whenever the last one has been asked often enough. */
    private static void answers(String name, State state) {
        CHECK.about(name);
        Pair p = null;
        for (Question question : questions()) {
            if (p == null || p.calls > MOST_CALLS - 10) {
                p = new Pair();
                state.make(p);
            }
            question.ask(p);
        }
    }

    private static List<Question> questions() {
        List<Question> list = new ArrayList<>();
        states(list);
        hoursAhead(list);
        bidding(list);
        ships(list);
        for (int i = -1; i <= 3; i++) {
            int what = i;
            list.add(p -> p.same("broken(" + what + ")", p.real.broken(what), p.model.broken(what)));
            list.add(p -> p.same("meet(" + what + ")", p.real.meet(what), p.model.meet(what)));
            list.add(p -> p.same("payers(" + what + ")", p.real.payers(what), p.model.payers(what)));
        }
        list.add(FullTest::seen);
        list.add(FullTest::pictured);
        return list;
    }

    private static void states(List<Question> list) {
        for (int i = -1; i <= 12; i++) {
            int what = i;
            list.add(p -> p.same("has(" + what + ")", p.real.has(what), p.model.has(what)));
            list.add(p -> p.same("status(" + what + ")", p.real.status(what), p.model.status(what)));
        }
        for (int i = -1; i <= 8; i++) {
            int n = i;
            for (int k = -1; k <= 10; k++) {
                int what = k;
                list.add(p -> p.same("moon(" + n + ", " + what + ")", p.real.moon(n, what), p.model.moon(n, what)));
                list.add(p -> p.same("harbor(" + n + ", " + what + ")", p.real.harbor(n, what), p.model.harbor(n, what)));
            }
            for (int m = -1; m <= 3; m++) {
                int moon = m;
                for (int what = 0; what < 2; what++) {
                    int which = what;
                    list.add(p -> p.same("bids(" + n + ", " + moon + ", " + which + ")", p.real.bids(n, moon, which),
                            p.model.bids(n, moon, which)));
                    list.add(p -> p.same("letter(" + which + ", " + n + ", " + moon + ")", p.real.letter(which, n, moon),
                            p.model.letter(which, n, moon)));
                }
            }
        }
    }

    private static void hoursAhead(List<Question> list) {
        for (int i = -1; i <= 24; i++) {
            int place = i;
            for (int m = -1; m <= 3; m++) {
                int moon = m;
                list.add(p -> p.same("pull(" + moon + ", " + place + ")", p.real.pull(moon, place), p.model.pull(moon, place)));
            }
        }
        for (int t : new int[] {49, 48, 0, -1, 1, 5, 47}) {
            for (int i = -1; i <= 24; i++) {
                int place = i;
                list.add(p -> p.same("height(" + place + ", " + t + ")", p.real.height(place, t), p.model.height(place, t)));
            }
            for (int i = -1; i <= 8; i++) {
                int h = i;
                for (int k = 0; k <= 2; k++) {
                    int what = k;
                    list.add(p -> p.same("ahead(" + h + ", " + t + ", " + what + ")", p.real.ahead(h, t, what), p.model.ahead(h, t, what)));
                }
            }
            list.add(p -> p.same("stranded(" + t + ", 0)", p.real.stranded(t, 0), p.model.stranded(t, 0)));
            list.add(p -> p.same("stranded(" + t + ", 1)", p.real.stranded(t, 1), p.model.stranded(t, 1)));
        }
    }

    private static void bidding(List<Question> list) {
        for (int h : new int[] {-1, 0, 7, 8}) {
            for (int height : new int[] {97, 130}) {
                for (int k : new int[] {-1, 2, 3}) {
                    list.add(p -> p.same("wished(" + h + ", " + height + ", " + k + ")", p.real.wished(h, height, k),
                            p.model.wished(h, height, k)));
                }
            }
        }
        for (int k : new int[] {-1, 0, 72, 73, 80}) {
            list.add(p -> p.same("rest(" + k + ")", p.real.rest(k), p.model.rest(k)));
        }
    }

    private static void ships(List<Question> list) {
        for (int from : new int[] {-1, 0, 3, 7, 8}) {
            for (int to : new int[] {-1, 0, 7, 8}) {
                for (int draught : new int[] {20, 85}) {
                    list.add(p -> p.same("across(" + from + ", " + to + ", " + draught + ")", p.real.across(from, to, draught),
                            p.model.across(from, to, draught)));
                    list.add(p -> p.same("latest(" + from + ", " + to + ", " + draught + ")", p.real.latest(from, to, draught),
                            p.model.latest(from, to, draught)));
                }
            }
        }
    }

    /** Twenty rows of what is so now. */
    private static void seen(Pair p) {
        int[] bytes = new int[60];
        for (int i = 0; i < 20; i++) {
            int place = i % Math.max(1, p.model.places());
            int height = p.model.height(place, 0) + 1000;
            bytes[3 * i] = place;
            bytes[3 * i + 1] = height >> 8 & 255;
            bytes[3 * i + 2] = height & 255;
        }
        p.tape(bytes);
        p.same("see", p.real.see(), p.model.see());
        for (int what = 0; what <= 2; what++) {
            p.same("payers(" + what + ") of twenty rows", p.real.payers(what), p.model.payers(what));
        }
        p.tape(java.util.Arrays.copyOf(bytes, 3));
        p.same("see", p.real.see(), p.model.see());
        for (int what = 0; what <= 2; what++) {
            p.same("payers(" + what + ") of one row", p.real.payers(what), p.model.payers(what));
        }
    }

    private static void pictured(Pair p) {
        p.same("image", p.real.image(), p.model.image());
        for (int k = -1; k <= 97; k++) {
            p.same("octet(" + k + ")", p.real.octet(k), p.model.octet(k));
        }
    }
}
