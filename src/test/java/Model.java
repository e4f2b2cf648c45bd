import java.util.ArrayDeque;
import java.util.ArrayList;
import java.util.Arrays;
import java.util.Deque;
import java.util.HashMap;
import java.util.List;
import java.util.Map;
import java.util.Set;
import java.util.TreeSet;

/**
 * The document once more, written in the plainest way and without a thought of speed: trees in place of
 * postfix code, nothing kept from call to call, ships searched forward only. ModelTest compares it with
 * the class.
 */
final class Model {
    static final int NONE = -1;
    static final int NOTHING = -1000000000;
    static final Set<String> OWN = new TreeSet<>(Arrays.asList(
            "sea", "moon", "at", "goes", "temper", "harbor", "purse", "depth", "pays", "owes", "clause", "pull",
            "earns", "level", "sulk", "height", "paid", "due", "far", "sulks", "rival", "hour", "place", "or",
            "and", "not", "all", "min", "max"));
    static final Set<String> VALUES = new TreeSet<>(Arrays.asList(
            "height", "depth", "purse", "paid", "due", "far", "temper", "sulks", "rival", "hour", "place"));

    interface Tree {
        long of(Map<String, Long> values);
    }

    static final class Fault extends RuntimeException {
        private static final long serialVersionUID = 1;
        final int code;
        final int at;

        Fault(int code, int at) {
            super(null, null, false, false);
            this.code = code;
            this.at = at;
        }
    }

    static final class Sea {
        int places;
        int statements;
        int level = 20;
        int sulk = 50;
        final List<String> moons = new ArrayList<>();
        final List<Integer> goes = new ArrayList<>();
        final List<String> harbors = new ArrayList<>();
        final List<Integer> harborPlace = new ArrayList<>();
        final List<Integer> depth = new ArrayList<>();
        final List<int[]> debts = new ArrayList<>();
        final List<Tree> clauses = new ArrayList<>();
        Tree pull;
        Tree earns;
        final State first = new State();
    }

    static final class State {
        int hour;
        int[] place = new int[3];
        int[] temper = new int[3];
        int[] purse = new int[8];
        int[][] bid = new int[8][3];
        int[][] due = new int[8][3];

        State copy() {
            State s = new State();
            s.hour = hour;
            s.place = place.clone();
            s.temper = temper.clone();
            s.purse = purse.clone();
            for (int h = 0; h < 8; h++) {
                s.bid[h] = bid[h].clone();
                s.due[h] = due[h].clone();
            }
            return s;
        }
    }

    // ---- the text

    static final class Token {
        final char kind; // w(ord) n(umber) s(ign) e(nd) b(ad)
        final String text;
        final int at;
        final int wrongAt;

        Token(char kind, String text, int at, int wrongAt) {
            this.kind = kind;
            this.text = text;
            this.at = at;
            this.wrongAt = wrongAt;
        }
    }

    static List<Token> tokens(String s) {
        List<Token> list = new ArrayList<>();
        int i = 0;
        while (i < s.length()) {
            char c = s.charAt(i);
            if (c == '\n' || c == ' ') {
                i++;
                continue;
            }
            boolean letter = c >= 'a' && c <= 'z';
            boolean digit = c >= '0' && c <= '9';
            if (letter || digit) {
                int from = i;
                while (i < s.length() && (letter ? s.charAt(i) >= 'a' && s.charAt(i) <= 'z'
                        : s.charAt(i) >= '0' && s.charAt(i) <= '9')) {
                    i++;
                }
                int most = letter ? 6 : 4;
                boolean glued = from > 0 && (Character.isLowerCase(s.charAt(from - 1)) && s.charAt(from - 1) < 128
                        || s.charAt(from - 1) >= '0' && s.charAt(from - 1) <= '9');
                if (glued) {
                    list.add(new Token('b', "", from, from));
                } else if (i - from > most) {
                    list.add(new Token('b', "", from, from + most));
                } else {
                    list.add(new Token(letter ? 'w' : 'n', s.substring(from, i), from, from));
                }
            } else {
                list.add(new Token(";+-*/%()[],<>=".indexOf(c) >= 0 ? 's' : 'b', "" + c, i, i));
                i++;
            }
        }
        list.add(new Token('e', "", s.length(), s.length()));
        return list;
    }

    static final class Reader {
        final List<Token> tokens;
        final Sea sea = new Sea();
        int i;
        int open;

        Reader(String text) {
            tokens = tokens(text);
        }

        Token now() {
            return tokens.get(i);
        }

        boolean isWord(String w) {
            return now().kind == 'w' && now().text.equals(w);
        }

        boolean isSign(String w) {
            return now().kind == 's' && now().text.equals(w);
        }

        Fault wrong() {
            return new Fault(1, now().wrongAt);
        }

        void want(String w) {
            if (!isWord(w) && !isSign(w)) {
                throw wrong();
            }
            i++;
        }

        int number(int low, int high) {
            if (now().kind != 'n') {
                throw wrong();
            }
            int n = Integer.parseInt(now().text);
            if (n < low || n > high) {
                throw new Fault(4, now().at);
            }
            i++;
            return n;
        }

        String name() {
            if (now().kind != 'w' || OWN.contains(now().text)) {
                throw wrong();
            }
            return tokens.get(i++).text;
        }

        String newName() {
            int at = now().at;
            String name = name();
            if (sea.moons.contains(name) || sea.harbors.contains(name)) {
                throw new Fault(2, at);
            }
            return name;
        }

        int known(List<String> names, int but) {
            int at = now().at;
            int which = names.indexOf(name());
            if (which < 0 || which == but) {
                throw new Fault(3, at);
            }
            return which;
        }

        Sea read() {
            if (now().kind == 'e') {
                throw wrong();
            }
            while (now().kind != 'e') {
                if (sea.statements == 80) {
                    throw new Fault(6, now().at);
                }
                statement();
                want(";");
                sea.statements++;
            }
            return sea;
        }

        void room(boolean room) {
            if (!room) {
                throw new Fault(6, now().at);
            }
            i++;
        }

        void statement() {
            String w = now().kind == 'w' ? now().text : "";
            if (sea.statements == 0) {
                want("sea");
                sea.places = number(4, 24);
            } else if (w.equals("moon")) {
                room(sea.moons.size() < 3);
                int m = sea.moons.size();
                String name = newName();
                want("at");
                sea.first.place[m] = number(0, sea.places - 1);
                want("goes");
                sea.goes.add(number(0, 23));
                want("temper");
                sea.first.temper[m] = number(0, 9);
                sea.moons.add(name);
            } else if (w.equals("harbor")) {
                room(sea.harbors.size() < 8);
                int h = sea.harbors.size();
                String name = newName();
                want("at");
                int at = now().at;
                int place = number(0, sea.places - 1);
                if (sea.harborPlace.contains(place)) {
                    throw new Fault(4, at);
                }
                sea.harborPlace.add(place);
                want("purse");
                sea.first.purse[h] = number(0, 999);
                want("depth");
                sea.depth.add(number(0, 99));
                sea.harbors.add(name);
            } else if (w.equals("pays")) {
                i++;
                int h = known(sea.harbors, NONE);
                int m = known(sea.moons, NONE);
                sea.first.bid[h][m] = number(0, 20);
            } else if (w.equals("owes")) {
                room(sea.debts.size() < 16);
                int from = known(sea.harbors, NONE);
                int to = known(sea.harbors, from);
                sea.debts.add(new int[] {from, to, number(1, 999)});
            } else if (w.equals("clause")) {
                room(sea.clauses.size() < 6);
                sea.clauses.add(test());
            } else if (w.equals("pull")) {
                room(sea.pull == null);
                sea.pull = sum();
            } else if (w.equals("earns")) {
                room(sea.earns == null);
                sea.earns = sum();
            } else if (w.equals("level")) {
                i++;
                sea.level = number(0, 99);
            } else if (w.equals("sulk")) {
                i++;
                sea.sulk = number(1, 999);
            } else {
                throw wrong();
            }
        }

        void opens() {
            if (open == 7) {
                throw new Fault(5, now().at);
            }
            open++;
            i++;
        }

        Tree test() {
            Tree left = both();
            while (isWord("or")) {
                i++;
                Tree a = left;
                Tree b = both();
                left = v -> a.of(v) != 0 || b.of(v) != 0 ? 1 : 0;
            }
            return left;
        }

        Tree both() {
            Tree left = fact();
            while (isWord("and")) {
                i++;
                Tree a = left;
                Tree b = fact();
                left = v -> a.of(v) != 0 && b.of(v) != 0 ? 1 : 0;
            }
            return left;
        }

        Tree fact() {
            if (isWord("not")) {
                opens();
                Tree a = fact();
                open--;
                return v -> a.of(v) == 0 ? 1 : 0;
            }
            if (isSign("[")) {
                opens();
                Tree a = test();
                want("]");
                open--;
                return a;
            }
            if (isWord("all")) {
                i++;
                return v -> 1;
            }
            Tree a = sum();
            if (!isSign("<") && !isSign(">") && !isSign("=")) {
                throw wrong();
            }
            char sign = tokens.get(i++).text.charAt(0);
            Tree b = sum();
            return v -> {
                int order = Long.compare(a.of(v), b.of(v));
                return (sign == '<' ? order < 0 : sign == '>' ? order > 0 : order == 0) ? 1 : 0;
            };
        }

        Tree sum() {
            Tree left = product();
            while (isSign("+") || isSign("-")) {
                left = two(tokens.get(i++).text.charAt(0), left, product());
            }
            return left;
        }

        Tree product() {
            Tree left = part();
            while (isSign("*") || isSign("/") || isSign("%")) {
                left = two(tokens.get(i++).text.charAt(0), left, part());
            }
            return left;
        }

        Tree part() {
            if (now().kind == 'n') {
                long n = number(0, 9999);
                return v -> n;
            }
            if (isSign("(")) {
                opens();
                Tree a = sum();
                want(")");
                open--;
                return a;
            }
            if (isWord("min") || isWord("max")) {
                boolean least = isWord("min");
                i++;
                if (!isSign("(")) {
                    throw wrong();
                }
                opens();
                Tree a = sum();
                want(",");
                Tree b = sum();
                want(")");
                open--;
                return v -> least ? Math.min(a.of(v), b.of(v)) : Math.max(a.of(v), b.of(v));
            }
            if (now().kind == 'w' && VALUES.contains(now().text)) {
                String word = tokens.get(i++).text;
                return v -> v.getOrDefault(word, 0L);
            }
            throw wrong();
        }

        static Tree two(char sign, Tree a, Tree b) {
            return v -> {
                long x = a.of(v);
                long y = b.of(v);
                long floor = y == 0 ? 0 : (long) Math.floor((double) x / y);
                long r = sign == '+' ? x + y : sign == '-' ? x - y : sign == '*' ? x * y
                        : sign == '/' ? floor : y == 0 ? 0 : x - y * floor;
                return Math.max(-1000000, Math.min(1000000, r));
            };
        }
    }

    // ---- the object

    final List<Integer> tape = new ArrayList<>();
    Sea sea;
    State state = new State();
    final Deque<State> past = new ArrayDeque<>();
    final List<int[]> seen = new ArrayList<>();
    final List<Integer> image = new ArrayList<>();
    final int[] refused = new int[6];
    long seed = 1;
    int faultCode;
    int faultAt = NONE;

    int refuse(int kind) {
        refused[kind]++;
        return NONE;
    }

    int feed(int... numbers) {
        if (tape.size() + 20 > 1600) {
            return refuse(0);
        }
        for (int n : numbers) {
            for (int k = 3; k >= 0; k--) {
                tape.add(n >>> (8 * k) & 255);
            }
        }
        return tape.size();
    }

    boolean end(int n) {
        if (n < 0 || n > tape.size()) {
            refuse(0);
            return false;
        }
        while (tape.size() > n) {
            tape.remove(tape.size() - 1);
        }
        return true;
    }

    List<Integer> take() {
        List<Integer> bytes = new ArrayList<>(tape);
        tape.clear();
        return bytes;
    }

    int sea() {
        StringBuilder text = new StringBuilder();
        for (int b : take()) {
            text.append((char) b);
        }
        try {
            Sea next = new Reader(text.toString()).read();
            faultCode = 0;
            faultAt = NONE;
            sea = next;
        } catch (Fault f) {
            faultCode = f.code;
            faultAt = f.at;
            return refuse(1);
        }
        state = sea.first.copy();
        past.clear();
        seen.clear();
        return sea.statements;
    }

    int fault(int what) {
        return what == 0 ? faultCode : what == 1 ? faultAt : NONE;
    }

    int moons() {
        return sea == null ? 0 : sea.moons.size();
    }

    int harbors() {
        return sea == null ? 0 : sea.harbors.size();
    }

    int places() {
        return sea == null ? 0 : sea.places;
    }

    boolean isMoon(int m) {
        return m >= 0 && m < moons();
    }

    boolean isHarbor(int h) {
        return h >= 0 && h < harbors();
    }

    boolean isPlace(int p) {
        return p >= 0 && p < places();
    }

    static int sum(int[][] all) {
        int sum = 0;
        for (int[] row : all) {
            sum += Arrays.stream(row).sum();
        }
        return sum;
    }

    static int forMoon(int[][] all, int m) {
        int sum = 0;
        for (int[] row : all) {
            sum += row[m];
        }
        return sum;
    }

    static int forHarbor(int[][] all, int h) {
        return Arrays.stream(all[h]).sum();
    }

    int has(int what) {
        switch (what) {
            case 0: return places();
            case 1: return moons();
            case 2: return harbors();
            case 3: return sea == null ? 0 : sea.debts.size();
            case 4: return sea == null ? 0 : sea.clauses.size();
            case 5: return sea == null ? 20 : sea.level;
            case 6: return sea == null ? 50 : sea.sulk;
            case 7: return state.hour;
            case 8: return Arrays.stream(state.purse).sum();
            case 9: return sum(state.due);
            case 10: return past.size();
            case 11: return (int) seed;
            default: return NONE;
        }
    }

    int letter(int kind, int which, int k) {
        if (k < 0 || k > 5 || kind != 0 && kind != 1 || (kind == 0 ? !isMoon(which) : !isHarbor(which))) {
            return NONE;
        }
        String name = (kind == 0 ? sea.moons : sea.harbors).get(which);
        return k < name.length() ? name.charAt(k) - 'a' + 1 : 0;
    }

    int moon(int m, int what) {
        if (!isMoon(m)) {
            return NONE;
        }
        switch (what) {
            case 0: return state.place[m];
            case 1: return sea.goes.get(m);
            case 2: return state.temper[m];
            case 3: return forMoon(state.bid, m);
            case 4: return forMoon(state.due, m);
            case 5: return forMoon(state.due, m) >= sea.sulk ? 1 : 0;
            default: return NONE;
        }
    }

    int owed(int harbor, int side, Set<Integer> without) {
        int sum = 0;
        for (int[] debt : sea.debts) {
            if (debt[side] == harbor && !without.contains(debt[0])) {
                sum += debt[2];
            }
        }
        return sum;
    }

    Set<Integer> failing() {
        Set<Integer> failing = new TreeSet<>();
        while (true) {
            Set<Integer> next = new TreeSet<>(failing);
            for (int h = 0; h < harbors(); h++) {
                if (state.purse[h] + owed(h, 1, failing) < owed(h, 0, Set.of())) {
                    next.add(h);
                }
            }
            if (next.equals(failing)) {
                return failing;
            }
            failing = next;
        }
    }

    int harbor(int h, int what) {
        if (!isHarbor(h)) {
            return NONE;
        }
        switch (what) {
            case 0: return sea.harborPlace.get(h);
            case 1: return state.purse[h];
            case 2: return sea.depth.get(h);
            case 3: return forHarbor(state.bid, h);
            case 4: return forHarbor(state.due, h);
            case 5: return strands(state, h) ? 1 : 0;
            case 6: return owed(h, 0, Set.of());
            case 7: return owed(h, 1, Set.of());
            case 8: return failing().contains(h) ? 1 : 0;
            case 9: return Math.max(0, owed(h, 0, Set.of()) - state.purse[h] - owed(h, 1, Set.of()));
            default: return NONE;
        }
    }

    int bids(int h, int m, int what) {
        if (!isHarbor(h) || !isMoon(m) || what != 0 && what != 1) {
            return NONE;
        }
        return what == 0 ? state.bid[h][m] : state.due[h][m];
    }

    int pullIn(State s, int m, int p) {
        if (sea.pull == null) {
            return 0;
        }
        int round = Math.floorMod(p - s.place[m], sea.places);
        Map<String, Long> v = new HashMap<>();
        v.put("paid", (long) forMoon(s.bid, m));
        v.put("due", (long) forMoon(s.due, m));
        v.put("far", (long) Math.min(round, sea.places - round));
        v.put("temper", (long) s.temper[m]);
        v.put("sulks", forMoon(s.due, m) >= sea.sulk ? 1L : 0L);
        v.put("rival", (long) sum(s.bid) - forMoon(s.bid, m));
        v.put("hour", (long) s.hour);
        v.put("place", (long) p);
        return (int) Math.max(-99, Math.min(99, sea.pull.of(v)));
    }

    int[] heights(State s) {
        int[] heights = new int[sea.places];
        int total = 0;
        for (int p = 0; p < sea.places; p++) {
            heights[p] = sea.level;
            for (int m = 0; m < moons(); m++) {
                int pull = pullIn(s, m, p);
                heights[p] += pull;
                total += pull;
            }
        }
        int share = (int) Math.floor((double) total / sea.places);
        for (int p = 0; p < sea.places; p++) {
            heights[p] -= share + (p < total - share * sea.places ? 1 : 0);
        }
        return heights;
    }

    boolean strands(State s, int h) {
        return heights(s)[sea.harborPlace.get(h)] < sea.depth.get(h);
    }

    Map<String, Long> harborValues(State s, int[] heights, int h) {
        Map<String, Long> v = new HashMap<>();
        v.put("height", (long) heights[sea.harborPlace.get(h)]);
        v.put("depth", (long) sea.depth.get(h));
        v.put("purse", (long) s.purse[h]);
        v.put("paid", (long) forHarbor(s.bid, h));
        v.put("due", (long) forHarbor(s.due, h));
        v.put("hour", (long) s.hour);
        v.put("place", (long) sea.harborPlace.get(h));
        return v;
    }

    void pass(State s) {
        int[] heights = heights(s);
        for (int h = 0; h < harbors() && sea.earns != null; h++) {
            long earned = Math.max(0, Math.min(99, sea.earns.of(harborValues(s, heights, h))));
            s.purse[h] = (int) Math.min(9999, s.purse[h] + earned);
        }
        for (int h = 0; h < harbors(); h++) {
            for (int m = 0; m < moons(); m++) {
                if (s.purse[h] >= s.bid[h][m]) {
                    s.purse[h] -= s.bid[h][m];
                } else {
                    s.due[h][m] = Math.min(9999, s.due[h][m] + s.bid[h][m]);
                }
                if (s.due[h][m] > 0 && s.purse[h] >= s.due[h][m]) {
                    s.purse[h] -= s.due[h][m];
                    s.due[h][m] = 0;
                }
            }
        }
        for (int m = 0; m < moons(); m++) {
            s.place[m] = (s.place[m] + sea.goes.get(m)) % sea.places;
        }
        s.hour++;
    }

    int last() {
        return sea == null ? NONE : Math.min(48, 9999 - state.hour);
    }

    boolean isAhead(int t) {
        return t >= 0 && t <= last();
    }

    State later(int t) {
        State s = state.copy();
        for (int i = 0; i < t; i++) {
            pass(s);
        }
        return s;
    }

    int pull(int m, int p) {
        return isMoon(m) && isPlace(p) ? pullIn(state, m, p) : NOTHING;
    }

    int height(int p, int t) {
        return isPlace(p) && isAhead(t) ? heights(later(t))[p] : NOTHING;
    }

    int ahead(int h, int t, int what) {
        if (!isHarbor(h) || !isAhead(t)) {
            return NONE;
        }
        State s = later(t);
        switch (what) {
            case 0: return s.purse[h];
            case 1: return strands(s, h) ? 1 : 0;
            case 2: return forHarbor(s.due, h);
            default: return NONE;
        }
    }

    int broken(int what) {
        if (what < 0 || what > 2) {
            return NONE;
        }
        State s = state.copy();
        for (int t = 0; t <= last(); t++, pass(s)) {
            int[] heights = heights(s);
            for (int h = 0; h < harbors(); h++) {
                for (int c = 0; c < sea.clauses.size(); c++) {
                    if (sea.clauses.get(c).of(harborValues(s, heights, h)) == 0) {
                        return new int[] {t, h, c}[what];
                    }
                }
            }
        }
        return NONE;
    }

    int countStranded(int t) {
        State s = later(t);
        int count = 0;
        for (int h = 0; h < harbors(); h++) {
            count += strands(s, h) ? 1 : 0;
        }
        return count;
    }

    int stranded(int t, int what) {
        if (!isAhead(t) || what != 0 && what != 1) {
            return NONE;
        }
        if (what == 0) {
            return countStranded(t);
        }
        while (isAhead(t) && countStranded(t) == 0) {
            t++;
        }
        return isAhead(t) ? t : NONE;
    }

    void act() {
        past.addLast(state.copy());
        if (past.size() > 20) {
            past.removeFirst();
        }
    }

    int bid(int h, int m, int n) {
        if (!isHarbor(h) || !isMoon(m) || n < 0 || n > 20) {
            return refuse(2);
        }
        act();
        int before = state.bid[h][m];
        state.bid[h][m] = n;
        return before;
    }

    boolean give(int from, int to, int n) {
        if (!isHarbor(from) || !isHarbor(to) || from == to || n < 1 || state.purse[from] < n
                || (long) state.purse[to] + n > 9999) {
            refuse(2);
            return false;
        }
        act();
        state.purse[from] -= n;
        state.purse[to] += n;
        return true;
    }

    int soothe(int m, int n) {
        if (!isMoon(m) || n < 0 || n > 9) {
            return refuse(2);
        }
        act();
        int before = state.temper[m];
        state.temper[m] = n;
        return before;
    }

    int draw(int m) {
        seed = (1103515245L * seed + 12345L) % (1L << 31);
        return (int) (seed / 64 % m);
    }

    int pass(int n, int most, boolean storms) {
        if (sea == null || n < 1 || n > most || state.hour + n > 9999) {
            return refuse(3);
        }
        act();
        for (int i = 0; i < n; i++) {
            if (storms && moons() > 0) {
                int m = draw(moons());
                state.temper[m] = draw(10);
            }
            pass(state);
        }
        return state.hour;
    }

    int hours(int n) {
        return pass(n, 200, false);
    }

    int storms(int n) {
        return pass(n, 100, true);
    }

    boolean undo() {
        if (past.isEmpty()) {
            refuse(4);
            return false;
        }
        state = past.removeLast();
        return true;
    }

    boolean seed(int n) {
        if (n < 0) {
            refuse(5);
            return false;
        }
        seed = n;
        return true;
    }

    List<int[]> choices(int top) {
        List<int[]> list = new ArrayList<>();
        for (int a = 0; a <= (moons() > 0 ? top : 0); a++) {
            for (int b = 0; b <= (moons() > 1 ? top : 0); b++) {
                for (int c = 0; c <= (moons() > 2 ? top : 0); c++) {
                    list.add(new int[] {a, b, c});
                }
            }
        }
        return list;
    }

    int heightBy(State s, int h, int[] bids) {
        State t = s.copy();
        t.bid[h] = bids;
        return heights(t)[sea.harborPlace.get(h)];
    }

    int wished(int h, int height, int k) {
        if (!isHarbor(h) || height < -999 || height > 999 || k != NONE && !isMoon(k)) {
            return NONE;
        }
        List<int[]> list = choices(10);
        list.sort((x, y) -> Integer.compare(Arrays.stream(x).sum(), Arrays.stream(y).sum()));
        for (int[] bids : list) {
            if (heightBy(state, h, bids) >= height) {
                return k == NONE ? Arrays.stream(bids).sum() : bids[k];
            }
        }
        return NONE;
    }

    int rest(int k) {
        if (sea == null || k < NONE || k >= 0 && (!isHarbor(k / 10) || !isMoon(k % 10))) {
            return NONE;
        }
        State s = state.copy();
        int ended = 13;
        for (int round = 1; round <= 12 && ended == 13; round++) {
            boolean moved = false;
            for (int h = 0; h < harbors(); h++) {
                int most = Integer.MIN_VALUE;
                List<int[]> like = new ArrayList<>();
                for (int[] bids : choices(4)) {
                    int gain = heightBy(s, h, bids) - Arrays.stream(bids).sum();
                    if (gain > most) {
                        like.clear();
                        most = gain;
                    }
                    if (gain == most) {
                        like.add(bids);
                    }
                }
                int[] own = s.bid[h];
                if (like.stream().noneMatch(b -> Arrays.equals(b, own))) {
                    s.bid[h] = like.get(0);
                    moved = true;
                }
            }
            if (!moved) {
                ended = round;
            }
        }
        return k == NONE ? ended : s.bid[k / 10][k % 10];
    }

    /** The first HOUR AHEAD in which a ship that sets out in one is there, or NONE. */
    int arrives(int from, int to, int draught, int start, List<int[]> heightsAhead) {
        Set<Integer> at = new TreeSet<>(Set.of(sea.harborPlace.get(from)));
        for (int t = start; t <= last(); t++) {
            if (t > start) {
                Set<Integer> next = new TreeSet<>();
                for (int p : at) {
                    next.addAll(Arrays.asList(p, (p + 1) % sea.places, (p + sea.places - 1) % sea.places));
                }
                at = next;
            }
            int[] heights = heightsAhead.get(t);
            at.removeIf(p -> heights[p] < draught);
            if (at.contains(sea.harborPlace.get(to))) {
                return t;
            }
        }
        return NONE;
    }

    List<int[]> heightsAhead() {
        List<int[]> list = new ArrayList<>();
        State s = state.copy();
        for (int t = 0; t <= last(); t++) {
            list.add(heights(s));
            pass(s);
        }
        return list;
    }

    int across(int from, int to, int draught) {
        if (!isHarbor(from) || !isHarbor(to) || draught < 0 || draught > 99) {
            return NONE;
        }
        return arrives(from, to, draught, 0, heightsAhead());
    }

    int latest(int from, int to, int draught) {
        if (!isHarbor(from) || !isHarbor(to) || draught < 0 || draught > 99) {
            return NONE;
        }
        List<int[]> heightsAhead = heightsAhead();
        int start = last();
        while (start >= 0 && arrives(from, to, draught, start, heightsAhead) == NONE) {
            start--;
        }
        return start;
    }

    int meet(int what) {
        if (moons() == 0 || what != 0 && what != 1) {
            return NONE;
        }
        int[] place = state.place.clone();
        for (int t = 0; t <= 9999; t++) {
            Set<Integer> at = new TreeSet<>();
            for (int m = 0; m < moons(); m++) {
                at.add(place[m]);
                place[m] = (place[m] + sea.goes.get(m)) % sea.places;
            }
            if (at.size() == 1) {
                return what == 0 ? state.hour + t : at.iterator().next();
            }
        }
        return NONE;
    }

    int see() {
        List<Integer> b = take();
        boolean good = b.size() >= 3 && b.size() <= 60 && b.size() % 3 == 0;
        for (int i = 0; i < b.size() && good; i += 3) {
            good = b.get(i) < places();
        }
        if (!good) {
            return refuse(5);
        }
        seen.clear();
        for (int i = 0; i < b.size(); i += 3) {
            seen.add(new int[] {b.get(i), b.get(i + 1) * 256 + b.get(i + 2) - 1000});
        }
        return seen.size();
    }

    int payers(int what) {
        if (seen.isEmpty() || what < 0 || what > 2) {
            return NONE;
        }
        int count = 0;
        int all = -1;
        int some = 0;
        for (int set = 0; set < 1 << harbors(); set++) {
            State s = state.copy();
            for (int h = 0; h < harbors(); h++) {
                if ((set >> h & 1) == 0) {
                    s.bid[h] = new int[3];
                }
            }
            int[] heights = heights(s);
            if (seen.stream().allMatch(row -> heights[row[0]] == row[1])) {
                count++;
                all &= set;
                some |= set;
            }
        }
        return new int[] {count, count == 0 ? 0 : all, some}[what];
    }

    static int check(List<Integer> bytes) {
        int c = 89;
        for (int b : bytes) {
            c = (5 * c + b) % 251;
        }
        return c;
    }

    int image() {
        image.clear();
        image.addAll(Arrays.asList(state.hour / 256, state.hour % 256));
        for (int m = 0; m < moons(); m++) {
            image.addAll(Arrays.asList(state.place[m], state.temper[m]));
        }
        for (int h = 0; h < harbors(); h++) {
            image.addAll(Arrays.asList(state.purse[h] / 256, state.purse[h] % 256));
            for (int m = 0; m < moons(); m++) {
                image.addAll(Arrays.asList(state.bid[h][m], state.due[h][m] / 256, state.due[h][m] % 256));
            }
        }
        image.add(check(image));
        return image.size();
    }

    int octet(int k) {
        return k >= 0 && k < image.size() ? image.get(k) : NONE;
    }

    boolean on() {
        List<Integer> b = take();
        State s = sea == null ? null : fromImage(b);
        if (s == null) {
            refuse(5);
            return false;
        }
        state = s;
        past.clear();
        return true;
    }

    State fromImage(List<Integer> b) {
        if (b.size() != 3 + 2 * moons() + harbors() * (2 + 3 * moons())
                || check(b.subList(0, b.size() - 1)) != b.get(b.size() - 1)) {
            return null;
        }
        State s = new State();
        int i = 0;
        s.hour = b.get(i++) * 256 + b.get(i++);
        boolean good = s.hour <= 9999;
        for (int m = 0; m < moons(); m++) {
            s.place[m] = b.get(i++);
            s.temper[m] = b.get(i++);
            good &= s.place[m] < places() && s.temper[m] <= 9;
        }
        for (int h = 0; h < harbors(); h++) {
            s.purse[h] = b.get(i++) * 256 + b.get(i++);
            good &= s.purse[h] <= 9999;
            for (int m = 0; m < moons(); m++) {
                s.bid[h][m] = b.get(i++);
                s.due[h][m] = b.get(i++) * 256 + b.get(i++);
                good &= s.bid[h][m] <= 20 && s.due[h][m] <= 9999;
            }
        }
        return good ? s : null;
    }

    int status(int what) {
        return what >= 0 && what < 6 ? refused[what] : NONE;
    }
}
