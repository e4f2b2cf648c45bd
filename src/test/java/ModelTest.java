import java.util.ArrayList;
import java.util.Arrays;
import java.util.List;
import java.util.Random;
import java.util.regex.Matcher;
import java.util.regex.Pattern;

/** Random runs of calls: what the class answers is what the plain Model answers. */
public final class ModelTest {
    private static final String[] TOKENS = {
        "sea", "moon", "at", "goes", "temper", "harbor", "purse", "depth", "pays", "owes", "clause", "pull", "earns",
        "level", "sulk", "height", "paid", "due", "far", "sulks", "rival", "hour", "place", "or", "and", "not", "all",
        "min", "max", ";", "+", "-", "*", "/", "%", "(", ")", "[", "]", ",", "<", ">", "=", "0", "7", "23", "24",
        "999", "1000", "9999", "12345", "abcdefg", "a", "b", "\n", " ", "#", "A", "\t", "\u00e9"};
    private static final String[] NUMBERS = {"0", "1", "3", "4", "9", "10", "20", "21", "23", "24", "25", "99", "100",
        "999", "1000", "9999", "10000", "0007", "00007"};
    private static final String[] NAMES = {"a", "moonsa", "red", "ayr", "b", "cam", "abcdef", "abcdefg", "at", "max",
        "height", "sea", "level", "other", "not", "all"};
    private static final String[] VALUES = Model.VALUES.toArray(new String[0]);

    private final Random random;
    private final MoonTender real = new MoonTender();
    private final Model model = new Model();
    private final List<String> log = new ArrayList<>();
    private int wrong;

    private ModelTest(long seed) {
        random = new Random(seed);
    }

    public static void main(String[] args) {
        int runs = args.length > 0 ? Integer.parseInt(args[0]) : 200;
        long first = args.length > 1 ? Long.parseLong(args[1]) : 1;
        int wrong = 0;
        for (long seed = first; seed < first + runs && wrong < 5; seed++) {
            ModelTest test = new ModelTest(seed);
            test.run();
            if (test.wrong > 0) {
                wrong++;
                System.out.println("random run " + seed + ":");
                for (int i = Math.max(0, test.log.size() - 12); i < test.log.size(); i++) {
                    System.out.println("  " + test.log.get(i));
                }
            }
        }
        if (wrong > 0) {
            System.exit(1);
        }
        System.out.println("random runs: all answers are as the model's");
    }

    private int below(int n) {
        return random.nextInt(n);
    }

    private int from(int low, int high) {
        return low + random.nextInt(high - low + 1);
    }

    private boolean often() {
        return random.nextInt(4) > 0;
    }

    private boolean seldom() {
        return random.nextInt(12) == 0;
    }

    private void due(String call, long got, long want) {
        log.add(call + " answered " + got + (got == want ? "" : ", due is " + want));
        if (got != want) {
            wrong++;
        }
    }

    private void due(String call, boolean got, boolean want) {
        due(call, got ? 1 : 0, want ? 1 : 0);
    }

    private void run() {
        if (often()) {
            sea(0);
        }
        int calls = from(30, 120);
        for (int i = 0; i < calls && wrong == 0; i++) {
            switch (below(16)) {
                case 0:
                    if (seldom()) {
                        sea(from(0, 3));
                    } else {
                        badText();
                    }
                    break;
                case 1: case 2: case 3: case 4: act(); break;
                case 5: case 6: ask(); break;
                case 7: picture(); break;
                case 8: sight(); break;
                default: ask(); break;
            }
        }
        for (int what = -1; what <= 12 && wrong == 0; what++) {
            due("has(" + what + ")", real.has(what), model.has(what));
            due("status(" + what + ")", real.status(what), model.status(what));
        }
    }

    // ---- texts

    private String blank() {
        return seldom() ? "\n " : random.nextInt(3) == 0 ? " " : "";
    }

    private String sum(int deep) {
        StringBuilder s = new StringBuilder(product(deep));
        for (int i = below(deep > 2 ? 1 : 3); i > 0; i--) {
            s.append(blank()).append(random.nextBoolean() ? "+" : "-").append(blank()).append(product(deep));
        }
        return s.toString();
    }

    private String product(int deep) {
        StringBuilder s = new StringBuilder(part(deep));
        for (int i = below(3) == 0 ? 1 : 0; i > 0; i--) {
            s.append(blank()).append("*/%".charAt(below(3))).append(blank()).append(part(deep));
        }
        return s.toString();
    }

    private String part(int deep) {
        int n = below(deep > 3 ? 6 : 9);
        if (n < 2) {
            return "" + (seldom() ? from(0, 9999) : from(0, 12));
        }
        if (n < 6) {
            return VALUES[below(VALUES.length)];
        }
        if (n < 7) {
            return "(" + sum(deep + 1) + blank() + ")";
        }
        return (random.nextBoolean() ? "min" : "max") + blank() + "(" + sum(deep + 1) + "," + blank() + sum(deep + 1) + ")";
    }

    private String test(int deep) {
        StringBuilder s = new StringBuilder(fact(deep));
        for (int i = below(3); i > 0; i--) {
            s.append(random.nextBoolean() ? " or " : " and ").append(fact(deep));
        }
        return s.toString();
    }

    private String fact(int deep) {
        int n = below(deep > 3 ? 6 : 9);
        if (n < 5) {
            return sum(2) + blank() + "<>=".charAt(below(3)) + blank() + sum(2);
        }
        if (n < 6) {
            return "all";
        }
        return n < 8 ? "not " + fact(deep + 1) : "[" + test(deep + 1) + "]";
    }

    private String usefulPull() {
        switch (below(6)) {
            case 0: return "paid*" + from(1, 9) + "-far*" + from(1, 4);
            case 1: return "paid*(" + from(3, 9) + "-far)/(1+temper/2)-rival/3-sulks*max(4,due/5)+hour%3";
            case 2: return "(paid-rival)*3-far";
            case 3: return "paid+temper-far+place%3";
            case 4: return "max(0," + from(3, 20) + "-far*far)-rival%" + from(2, 5);
            default: return sum(0);
        }
    }

    private String text(int longer) {
        List<String> list = new ArrayList<>();
        int places = seldom() ? 24 : from(4, 14);
        int moons = from(0, 3);
        int harbors = Math.min(places, seldom() ? 8 : from(0, 4));
        List<Integer> free = new ArrayList<>();
        for (int p = 0; p < places; p++) {
            free.add(p);
        }
        list.add("sea " + places);
        String[] moonNames = {"a", "moonsa", "red"};
        String[] harborNames = {"ayr", "b", "cam", "abcdef", "sols", "se", "zzzzzz", "atat"};
        for (int m = 0; m < moons; m++) {
            list.add("moon " + moonNames[m] + " at " + below(places) + " goes " + from(0, seldom() ? 23 : 5)
                    + " temper " + below(10));
        }
        for (int h = 0; h < harbors; h++) {
            list.add("harbor " + harborNames[h] + " at " + free.remove(below(free.size())) + " purse "
                    + from(0, seldom() ? 999 : 60) + " depth " + from(0, seldom() ? 99 : 30));
        }
        for (int i = below(8); i > 0 && moons > 0 && harbors > 0; i--) {
            list.add("pays " + harborNames[below(harbors)] + " " + moonNames[below(moons)] + " "
                    + from(0, seldom() ? 20 : 8));
        }
        for (int i = below(10) + longer; i > 0 && harbors > 1; i--) {
            int a = below(harbors);
            list.add("owes " + harborNames[a] + " " + harborNames[(a + from(1, harbors - 1)) % harbors] + " "
                    + from(1, 90));
        }
        for (int i = below(4) + longer; i > 0; i--) {
            list.add("clause " + (often() ? "height>" + from(0, 15) + " or purse>" + below(9) : test(0)));
        }
        if (often()) {
            list.add("pull " + (often() ? usefulPull() : sum(0)));
        }
        if (often()) {
            list.add("earns " + (often() ? "max(0,height-" + from(5, 20) + ")/2+min(paid,3)" : sum(0)));
        }
        if (often()) {
            list.add("level " + from(0, seldom() ? 99 : 30));
        }
        if (often()) {
            list.add("sulk " + from(1, 30));
        }
        StringBuilder s = new StringBuilder();
        for (String statement : list) {
            s.append(blank()).append(statement).append(blank()).append(';');
        }
        return s + blank();
    }

    private String spoiled(String text) {
        StringBuilder s = new StringBuilder(text);
        for (int i = from(1, 2); i > 0; i--) {
            int at = below(s.length() + 1);
            String token = TOKENS[below(TOKENS.length)];
            switch (below(12)) {
                case 0: s.insert(at, token); break;
                case 1: s.insert(at, " " + token + " "); break;
                case 2: s.setLength(at); break;
                case 3: s.delete(at, Math.min(s.length(), at + from(1, 3))); break;
                case 4: {
                    int end = s.indexOf(";", at);
                    int start = s.lastIndexOf(";", Math.max(0, at - 1));
                    if (start >= 0 && end > start) {
                        s.insert(end, s.substring(start, end));
                    }
                    break;
                }
                case 5: case 6: case 7: exchange(s, at, "[0-9]+", NUMBERS[below(NUMBERS.length)]); break;
                case 8: case 9: exchange(s, at, "[a-z]+", NAMES[below(NAMES.length)]); break;
                case 10: s.insert(s.lastIndexOf(";") + 1, "clause " + deep() + ";"); break;
                default: s.replace(at, Math.min(s.length(), at + 1), token); break;
            }
        }
        return s.toString();
    }

    /** Puts another text in place of the next piece of that form. */
    private static void exchange(StringBuilder s, int at, String form, String other) {
        Matcher m = Pattern.compile(form).matcher(s);
        if (m.find(at)) {
            s.replace(m.start(), m.end(), other);
        }
    }

    /** A TEST with some six to nine ( [ not open at once, most often a right one but for that. */
    private String deep() {
        StringBuilder s = new StringBuilder();
        StringBuilder end = new StringBuilder();
        int tests = below(9);
        for (int i = 0; i < tests; i++) {
            boolean not = random.nextBoolean();
            s.append(not ? "not " : seldom() ? "[all or " : "[");
            end.insert(0, not ? "" : "]");
        }
        end.insert(0, ">2");
        for (int i = from(6, 9) - tests; i > 0; i--) {
            boolean plain = random.nextBoolean();
            s.append(plain ? "(" : seldom() ? "7*(3)+min(1," : "max(1,");
            end.insert(0, ")");
        }
        return s.append("paid").append(end).toString();
    }

    private void tell(String text) {
        byte[] bytes = new byte[(Math.min(text.length(), 1600) + 19) / 20 * 20];
        Arrays.fill(bytes, (byte) ' ');
        for (int i = 0; i < text.length() && i < bytes.length; i++) {
            bytes[i] = (byte) text.charAt(i);
        }
        tell(bytes, Math.min(bytes.length, text.length()));
    }

    private void tell(byte[] bytes, int size) {
        due("end(0)", real.end(0), model.end(0));
        for (int i = 0; i + 20 <= bytes.length; i += 20) {
            int[] n = new int[5];
            for (int k = 0; k < 20; k++) {
                n[k / 4] = n[k / 4] << 8 | bytes[i + k] & 255;
            }
            due("feed", real.feed(n[0], n[1], n[2], n[3], n[4]), model.feed(n));
        }
        due("end", real.end(size), model.end(size));
    }

    private void sea(int longer) {
        String text = text(longer);
        tell(text);
        due("sea() of <" + text + ">", real.sea(), model.sea());
        faults();
    }

    private void badText() {
        String text = spoiled(text(seldom() ? 6 : 0));
        if (seldom()) {
            text = text + "level 7;".repeat(from(60, 80));
        }
        if (seldom()) {
            text = text + "clause " + "[not(min(max(".substring(0, below(13)).repeat(from(1, 4)) + "1";
        }
        tell(text);
        due("sea() of <" + text + ">", real.sea(), model.sea());
        faults();
    }

    private void faults() {
        for (int what = -1; what <= 2; what++) {
            due("fault(" + what + ")", real.fault(what), model.fault(what));
        }
    }

    // ---- calls

    private int harbor() {
        return seldom() ? from(-1, 8) : below(Math.max(1, model.harbors()));
    }

    private int moon() {
        return seldom() ? from(-1, 3) : below(Math.max(1, model.moons()));
    }

    private int place() {
        return seldom() ? from(-1, 24) : below(Math.max(1, model.places()));
    }

    private int hour() {
        return seldom() ? from(-1, 49) : below(12);
    }

    private int strange() {
        int[] list = {Integer.MIN_VALUE, Integer.MAX_VALUE, -1, -2, 0, 1, 9999, 10000, 1000000};
        return list[below(list.length)];
    }

    private void act() {
        int h = harbor();
        int m = moon();
        switch (below(9)) {
            case 0: case 1: {
                int n = seldom() ? from(-1, 21) : below(9);
                due("bid(" + h + ", " + m + ", " + n + ")", real.bid(h, m, n), model.bid(h, m, n));
                break;
            }
            case 2: {
                int to = harbor();
                int n = seldom() ? strange() : from(0, 30);
                due("give(" + h + ", " + to + ", " + n + ")", real.give(h, to, n), model.give(h, to, n));
                break;
            }
            case 3: {
                int n = seldom() ? strange() : from(-1, 10);
                due("soothe(" + m + ", " + n + ")", real.soothe(m, n), model.soothe(m, n));
                break;
            }
            case 4: case 5: {
                int n = seldom() ? from(199, 201) : seldom() ? strange() : from(0, 9);
                due("hours(" + n + ")", real.hours(n), model.hours(n));
                break;
            }
            case 6: {
                int n = seldom() ? from(99, 101) : seldom() ? strange() : from(0, 9);
                due("storms(" + n + ")", real.storms(n), model.storms(n));
                break;
            }
            case 7: due("undo()", real.undo(), model.undo()); break;
            default: {
                int n = seldom() ? strange() : from(0, 1 << 30);
                due("seed(" + n + ")", real.seed(n), model.seed(n));
                break;
            }
        }
    }

    private void ask() {
        int h = harbor();
        int m = moon();
        int p = place();
        int t = hour();
        int to = harbor();
        int draught = seldom() ? from(-1, 100) : from(0, 30);
        int what = seldom() ? strange() : from(0, 3);
        switch (below(17)) {
            case 0: { int w = from(-1, 12); due("has(" + w + ")", real.has(w), model.has(w)); break; }
            case 1: {
                int k = from(-1, 6);
                int kind = seldom() ? strange() : below(2);
                due("letter(" + kind + "," + h + "," + k + ")", real.letter(kind, h, k), model.letter(kind, h, k));
                break;
            }
            case 2: { int w = from(-1, 6); due("moon(" + m + "," + w + ")", real.moon(m, w), model.moon(m, w)); break; }
            case 3: {
                int w = from(-1, 10);
                due("harbor(" + h + "," + w + ")", real.harbor(h, w), model.harbor(h, w));
                break;
            }
            case 4: due("bids(" + h + "," + m + "," + what + ")", real.bids(h, m, what), model.bids(h, m, what)); break;
            case 5: due("pull(" + m + "," + p + ")", real.pull(m, p), model.pull(m, p)); break;
            case 6: due("height(" + p + "," + t + ")", real.height(p, t), model.height(p, t)); break;
            case 7: due("ahead(" + h + "," + t + "," + what + ")", real.ahead(h, t, what), model.ahead(h, t, what)); break;
            case 8: due("broken(" + what + ")", real.broken(what), model.broken(what)); break;
            case 9: due("stranded(" + t + "," + what + ")", real.stranded(t, what), model.stranded(t, what)); break;
            case 10: {
                int wanted = seldom() ? from(-1000, 1000) : from(10, 45);
                int k = from(-1, 2);
                due("wished(" + h + "," + wanted + "," + k + ")", real.wished(h, wanted, k), model.wished(h, wanted, k));
                break;
            }
            case 11: {
                int k = seldom() ? strange() : random.nextInt(3) == 0 ? -1 : 10 * h + m;
                due("rest(" + k + ")", real.rest(k), model.rest(k));
                break;
            }
            case 12:
                due("across(" + h + "," + to + "," + draught + ")", real.across(h, to, draught), model.across(h, to, draught));
                break;
            case 13:
                due("latest(" + h + "," + to + "," + draught + ")", real.latest(h, to, draught), model.latest(h, to, draught));
                break;
            case 14: due("meet(" + what + ")", real.meet(what), model.meet(what)); break;
            case 15: due("payers(" + what + ")", real.payers(what), model.payers(what)); break;
            default: { int k = from(-1, 100); due("octet(" + k + ")", real.octet(k), model.octet(k)); break; }
        }
    }

    private void picture() {
        due("image()", real.image(), model.image());
        int size = model.image.size();
        byte[] bytes = new byte[(size + 19) / 20 * 20 + 20];
        for (int k = -1; k <= size; k++) {
            due("octet(" + k + ")", real.octet(k), model.octet(k));
            if (k >= 0 && k < size) {
                bytes[k] = (byte) model.octet(k);
            }
        }
        if (random.nextBoolean()) {
            return;
        }
        int taken = size;
        if (random.nextBoolean()) {
            highNumbers(bytes);
        } else if (random.nextBoolean()) {
            for (int i = from(1, 2); i > 0; i--) {
                bytes[below(size)] = (byte) (seldom() ? below(256) : below(30));
            }
            taken += seldom() ? from(-2, 2) : 0;
        }
        if (often() && taken > 0) {
            int c = 89;
            for (int i = 0; i < taken - 1; i++) {
                c = (5 * c + (bytes[i] & 255)) % 251;
            }
            bytes[taken - 1] = (byte) c;
        }
        tell(bytes, Math.max(0, taken));
        due("on()", real.on(), model.on());
    }

    /** An image near the ends: the last HOURS, full purses, DUES near what they can be. */
    private void highNumbers(byte[] bytes) {
        two(bytes, 0, often() ? 9999 - below(60) : 9998 + below(4));
        int moons = model.moons();
        for (int h = 0; h < model.harbors(); h++) {
            int at = 2 + 2 * moons + h * (2 + 3 * moons);
            if (random.nextBoolean()) {
                two(bytes, at, seldom() ? 10000 : often() ? 9999 - below(40) : below(12));
            }
            for (int m = 0; m < moons; m++) {
                if (random.nextInt(3) == 0) {
                    two(bytes, at + 3 + 3 * m, seldom() ? 9999 + below(2) : 9999 - below(40));
                }
            }
        }
    }

    private static void two(byte[] bytes, int at, int n) {
        bytes[at] = (byte) (n >> 8);
        bytes[at + 1] = (byte) n;
    }

    private void sight() {
        if (model.sea == null) {
            return;
        }
        int rows = seldom() ? from(19, 21) : from(1, 3);
        byte[] bytes = new byte[80];
        int now = 0;
        int set = random.nextInt();
        Model.State s = model.state.copy();
        for (int h = 0; h < 8; h++) {
            if ((set >> h & 1) == 0) {
                s.bid[h] = new int[3];
            }
        }
        int[] heights = model.heights(s);
        for (int i = 0; i < rows; i++) {
            int p = below(model.places());
            int height = heights[p] + (seldom() ? from(-1, 1) : 0) + 1000;
            bytes[now++] = (byte) (rows < 4 && seldom() ? from(0, 255) : p);
            bytes[now++] = (byte) (height >> 8);
            bytes[now++] = (byte) height;
        }
        tell(bytes, Math.max(0, now + (seldom() ? from(-2, 2) : 0)));
        due("see()", real.see(), model.see());
        for (int what = -1; what <= 3; what++) {
            due("payers(" + what + ")", real.payers(what), model.payers(what));
        }
    }
}
