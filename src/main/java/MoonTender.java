import java.util.Arrays;

/**
 * A sea of moons that bid for the tide. The document's terms in capitals (SEA, MOON, HARBOR, PULL,
 * HEIGHT, AHEAD and so on) are used in the comments as it uses them.
 */
public final class MoonTender {
    public static final int NONE = -1;
    public static final int NOTHING = -1000000000;

    private static final int MOST_BYTES = 1600;
    private static final int MOST_PLACES = 24;
    private static final int MOST_MOONS = 3;
    private static final int MOST_HARBORS = 8;
    private static final int MOST_DEBTS = 16;
    private static final int MOST_CLAUSES = 6;
    private static final int MOST_STATEMENTS = 80;
    private static final int MOST_LETTERS = 6;
    private static final int MOST_DIGITS = 4;
    private static final int MOST_OPEN = 7;
    private static final int MOST_COINS = 9999;
    private static final int MOST_BID = 20;
    private static final int MOST_TEMPER = 9;
    private static final int MOST_PULL = 99;
    private static final int MOST_EARNED = 99;
    private static final int LAST_HOUR = 9999;
    private static final int FAR_AHEAD = 48;
    private static final int MOST_ACTS = 20;
    private static final int MOST_SEEN = 20;

    // The OWN WORDS, by their place in the document's list.
    private static final int SEA = 0;
    private static final int MOON = 1;
    private static final int AT = 2;
    private static final int GOES = 3;
    private static final int TEMPER = 4;
    private static final int HARBOR = 5;
    private static final int PURSE = 6;
    private static final int DEPTH = 7;
    private static final int PAYS = 8;
    private static final int OWES = 9;
    private static final int CLAUSE = 10;
    private static final int PULL = 11;
    private static final int EARNS = 12;
    private static final int LEVEL = 13;
    private static final int SULK = 14;
    private static final int HEIGHT = 15;
    private static final int PAID = 16;
    private static final int DUE = 17;
    private static final int FAR = 18;
    private static final int SULKS = 19;
    private static final int RIVAL = 20;
    private static final int HOUR = 21;
    private static final int PLACE = 22;
    private static final int OR = 23;
    private static final int AND = 24;
    private static final int NOT = 25;
    private static final int ALL = 26;
    private static final int MIN = 27;
    private static final int MAX = 28;
    private static final int OWN_WORDS = 29;

    private final byte[] tape = new byte[MOST_BYTES];
    private final int[] refused = new int[6];
    private final Moment now = new Moment();
    private Chart chart = new Chart();
    private final Parser parser = new Parser();
    private final Tide tide = new Tide();
    private final Forecast forecast = new Forecast(chart, now);
    private final Bidding bidding = new Bidding(chart, now);
    private final Witness witness = new Witness(chart, now);
    private final Past past = new Past();
    private final Picture picture = new Picture();
    private int tapeSize;
    private int seedNow = 1;

    public MoonTender() {
    }

    public int feed(int a, int b, int c, int d, int e) {
        if (tapeSize + 20 > MOST_BYTES) {
            return refusal(0);
        }
        append(a);
        append(b);
        append(c);
        append(d);
        append(e);
        return tapeSize;
    }

    public boolean end(int n) {
        if (n < 0 || n > tapeSize) {
            return refusal(0) != NONE;
        }
        tapeSize = n;
        return true;
    }

    public int sea() {
        int size = takeTape();
        if (!parser.read(tape, size)) {
            return refusal(1);
        }
        chart = parser.handOver(chart);
        now.copyFrom(chart.first);
        past.forget();
        witness.forget();
        changed();
        return chart.statements;
    }

    public int fault(int what) {
        if (what == 0) {
            return parser.faultCode;
        }
        return what == 1 ? parser.faultAt : NONE;
    }

    public int has(int what) {
        switch (what) {
            case 0: return chart.places;
            case 1: return chart.moons;
            case 2: return chart.harbors;
            case 3: return chart.debts;
            case 4: return chart.clauses;
            case 5: return chart.level;
            case 6: return chart.sulk;
            case 7: return now.hour;
            case 8: return now.coinsInPurses();
            case 9: return now.coinsDue();
            case 10: return past.acts;
            case 11: return seedNow;
            default: return NONE;
        }
    }

    public int letter(int kind, int which, int k) {
        if (k < 0 || k >= MOST_LETTERS) {
            return NONE;
        }
        if (kind == 0 && isMoon(which)) {
            return Lexer.letterOf(chart.moonName[which], k);
        }
        if (kind == 1 && isHarbor(which)) {
            return Lexer.letterOf(chart.harborName[which], k);
        }
        return NONE;
    }

    public int moon(int moon, int what) {
        if (!isMoon(moon)) {
            return NONE;
        }
        switch (what) {
            case 0: return now.place[moon];
            case 1: return chart.goes[moon];
            case 2: return now.temper[moon];
            case 3: return now.offeredTo(moon);
            case 4: return now.dueTo(moon);
            case 5: return now.dueTo(moon) >= chart.sulk ? 1 : 0;
            default: return NONE;
        }
    }

    public int harbor(int harbor, int what) {
        if (!isHarbor(harbor)) {
            return NONE;
        }
        switch (what) {
            case 0: return chart.harborPlace[harbor];
            case 1: return now.purse[harbor];
            case 2: return chart.depth[harbor];
            case 3: return now.offeredBy(harbor);
            case 4: return now.dueFrom(harbor);
            case 5: return isStranded(harbor) ? 1 : 0;
            case 6: return chart.owedBy(harbor);
            case 7: return chart.owedTo(harbor, 0);
            case 8: return chart.failing(now.purse) >> harbor & 1;
            case 9: return Math.max(0, chart.owedBy(harbor) - now.purse[harbor] - chart.owedTo(harbor, 0));
            default: return NONE;
        }
    }

    public int bids(int harbor, int moon, int what) {
        if (!isHarbor(harbor) || !isMoon(moon)) {
            return NONE;
        }
        int pair = Moment.pair(harbor, moon);
        if (what == 0) {
            return now.offer[pair];
        }
        return what == 1 ? now.due[pair] : NONE;
    }

    public int pull(int moon, int place) {
        if (!isMoon(moon) || !isPlace(place)) {
            return NOTHING;
        }
        forecast.learn(0);
        return forecast.pullNow(moon, place);
    }

    public int height(int place, int ahead) {
        if (!isPlace(place) || !forecast.reaches(ahead)) {
            return NOTHING;
        }
        forecast.learn(ahead);
        return forecast.heightOf(place, ahead);
    }

    public int ahead(int harbor, int ahead, int what) {
        if (!isHarbor(harbor) || !forecast.reaches(ahead)) {
            return NONE;
        }
        forecast.learn(ahead);
        switch (what) {
            case 0: return forecast.purseOf(harbor, ahead);
            case 1: return forecast.strands(harbor, ahead) ? 1 : 0;
            case 2: return forecast.dueFrom(harbor, ahead);
            default: return NONE;
        }
    }

    public int broken(int what) {
        if (what < 0 || what > 2 || !forecast.findBroken()) {
            return NONE;
        }
        if (what == 0) {
            return forecast.brokenHour;
        }
        return what == 1 ? forecast.brokenHarbor : forecast.brokenClause;
    }

    public int stranded(int ahead, int what) {
        if (!forecast.reaches(ahead)) {
            return NONE;
        }
        if (what == 0) {
            forecast.learn(ahead);
            return forecast.countStranded(ahead);
        }
        return what == 1 ? forecast.firstStrandedFrom(ahead) : NONE;
    }

    public int bid(int harbor, int moon, int n) {
        if (!isHarbor(harbor) || !isMoon(moon) || n < 0 || n > MOST_BID) {
            return refusal(2);
        }
        int pair = Moment.pair(harbor, moon);
        int before = now.offer[pair];
        past.keep(now);
        now.offer[pair] = n;
        changed();
        return before;
    }

    public boolean give(int from, int to, int n) {
        if (!isHarbor(from) || !isHarbor(to) || from == to || n < 1
                || n > now.purse[from] || n > MOST_COINS - now.purse[to]) {
            return refusal(2) != NONE;
        }
        past.keep(now);
        now.purse[from] -= n;
        now.purse[to] += n;
        changed();
        return true;
    }

    public int soothe(int moon, int n) {
        if (!isMoon(moon) || n < 0 || n > MOST_TEMPER) {
            return refusal(2);
        }
        int before = now.temper[moon];
        past.keep(now);
        now.temper[moon] = n;
        changed();
        return before;
    }

    public int hours(int n) {
        if (!canPass(n, 200)) {
            return refusal(3);
        }
        past.keep(now);
        for (int i = 0; i < n; i++) {
            tide.passHour(chart, now);
        }
        changed();
        return now.hour;
    }

    public int storms(int n) {
        if (!canPass(n, 100)) {
            return refusal(3);
        }
        past.keep(now);
        for (int i = 0; i < n; i++) {
            storm();
            tide.passHour(chart, now);
        }
        changed();
        return now.hour;
    }

    public boolean undo() {
        if (past.acts == 0) {
            return refusal(4) != NONE;
        }
        past.bringBack(now);
        changed();
        return true;
    }

    public boolean seed(int seed) {
        if (seed < 0) {
            return refusal(5) != NONE;
        }
        seedNow = seed;
        return true;
    }

    public int wished(int harbor, int height, int k) {
        if (!isHarbor(harbor) || height < -999 || height > 999 || k != NONE && !isMoon(k)) {
            return NONE;
        }
        if (!bidding.findWished(harbor, height)) {
            return NONE;
        }
        return k == NONE ? bidding.wishedSum : bidding.wishedBids[k];
    }

    public int rest(int k) {
        if (!isSea() || k < NONE) {
            return NONE;
        }
        if (k == NONE) {
            bidding.findRest();
            return bidding.restRound;
        }
        if (!isHarbor(k / 10) || !isMoon(k % 10)) {
            return NONE;
        }
        bidding.findRest();
        return bidding.rested.offer[Moment.pair(k / 10, k % 10)];
    }

    public int across(int from, int to, int draught) {
        return isVoyage(from, to, draught)
                ? forecast.crossing(chart.harborPlace[from], chart.harborPlace[to], draught) : NONE;
    }

    public int latest(int from, int to, int draught) {
        return isVoyage(from, to, draught)
                ? forecast.lastStart(chart.harborPlace[from], chart.harborPlace[to], draught) : NONE;
    }

    public int meet(int what) {
        int later = chart.meeting(now);
        if (later == NONE) {
            return NONE;
        }
        if (what == 0) {
            return now.hour + later;
        }
        return what == 1 ? chart.placeAfter(now, 0, later) : NONE;
    }

    public int see() {
        int size = takeTape();
        if (!witness.take(tape, size, chart.places)) {
            return refusal(5);
        }
        return witness.rows;
    }

    public int payers(int what) {
        if (witness.rows == 0 || what < 0 || what > 2) {
            return NONE;
        }
        witness.judge();
        if (what == 0) {
            return witness.sets;
        }
        return what == 1 ? witness.inAll : witness.inSome;
    }

    public int image() {
        picture.paint(chart, now);
        return picture.size;
    }

    public int octet(int k) {
        return k >= 0 && k < picture.size ? picture.bytes[k] & 255 : NONE;
    }

    public boolean on() {
        int size = takeTape();
        if (!isSea() || !picture.shows(chart, tape, size)) {
            return refusal(5) != NONE;
        }
        now.copyFrom(picture.shown);
        past.forget();
        changed();
        return true;
    }

    public int status(int what) {
        return what >= 0 && what < refused.length ? refused[what] : NONE;
    }

    private int refusal(int kind) {
        if (kind >= 0 && kind < refused.length) {
            refused[kind]++;
        }
        return NONE;
    }

    private void append(int number) {
        for (int shift = 24; shift >= 0; shift -= 8) {
            if (tapeSize < MOST_BYTES) {
                tape[tapeSize] = (byte) (number >> shift);
                tapeSize++;
            }
        }
    }

    private int takeTape() {
        int size = tapeSize;
        tapeSize = 0;
        return size;
    }

    /** What was reckoned from the state before is out of date. */
    private void changed() {
        forecast.begin(chart);
        bidding.begin(chart);
        witness.begin(chart);
    }

    private boolean isSea() {
        return chart.places > 0;
    }

    private boolean isMoon(int moon) {
        return moon >= 0 && moon < chart.moons;
    }

    private boolean isHarbor(int harbor) {
        return harbor >= 0 && harbor < chart.harbors;
    }

    private boolean isPlace(int place) {
        return place >= 0 && place < chart.places;
    }

    private boolean isStranded(int harbor) {
        forecast.learn(0);
        return forecast.strands(harbor, 0);
    }

    private boolean isVoyage(int from, int to, int draught) {
        return isHarbor(from) && isHarbor(to) && draught >= 0 && draught <= 99;
    }

    private boolean canPass(int n, int most) {
        return isSea() && n >= 1 && n <= most && n <= LAST_HOUR - now.hour;
    }

    private void storm() {
        if (chart.moons > 0) {
            int moon = draw(chart.moons);
            now.temper[moon] = draw(10);
        }
    }

    /** A DRAW of m; m is 1 or more. */
    private int draw(int m) {
        seedNow = (int) ((1103515245L * seedNow + 12345L) & 0x7fffffffL);
        return m > 0 ? seedNow / 64 % m : 0;
    }

    private static int within(int low, int n, int high) {
        if (n < low) {
            return low;
        }
        return n > high ? high : n;
    }

    /** All that changes as HOURS go by and ACTS are done. */
    private static final class Moment {
        int hour;
        final int[] place = new int[MOST_MOONS];
        final int[] temper = new int[MOST_MOONS];
        final int[] purse = new int[MOST_HARBORS];
        final int[] offer = new int[MOST_HARBORS * MOST_MOONS];
        final int[] due = new int[MOST_HARBORS * MOST_MOONS];

        static int pair(int harbor, int moon) {
            return harbor * MOST_MOONS + moon;
        }

        void copyFrom(Moment other) {
            hour = other.hour;
            System.arraycopy(other.place, 0, place, 0, place.length);
            System.arraycopy(other.temper, 0, temper, 0, temper.length);
            System.arraycopy(other.purse, 0, purse, 0, purse.length);
            System.arraycopy(other.offer, 0, offer, 0, offer.length);
            System.arraycopy(other.due, 0, due, 0, due.length);
        }

        void clear() {
            hour = 0;
            Arrays.fill(place, 0);
            Arrays.fill(temper, 0);
            Arrays.fill(purse, 0);
            Arrays.fill(offer, 0);
            Arrays.fill(due, 0);
        }

        int offeredTo(int moon) {
            int sum = 0;
            for (int h = 0; h < MOST_HARBORS; h++) {
                sum += offer[h * MOST_MOONS + moon];
            }
            return sum;
        }

        int dueTo(int moon) {
            int sum = 0;
            for (int h = 0; h < MOST_HARBORS; h++) {
                sum += due[h * MOST_MOONS + moon];
            }
            return sum;
        }

        int offeredBy(int harbor) {
            int sum = 0;
            for (int m = 0; m < MOST_MOONS; m++) {
                sum += offer[harbor * MOST_MOONS + m];
            }
            return sum;
        }

        int dueFrom(int harbor) {
            int sum = 0;
            for (int m = 0; m < MOST_MOONS; m++) {
                sum += due[harbor * MOST_MOONS + m];
            }
            return sum;
        }

        int offeredInAll() {
            return sumOf(offer);
        }

        int coinsInPurses() {
            return sumOf(purse);
        }

        int coinsDue() {
            return sumOf(due);
        }

        private static int sumOf(int[] row) {
            int sum = 0;
            for (int i = 0; i < row.length; i++) {
                sum += row[i];
            }
            return sum;
        }
    }

    /** The SUMS and TESTS of a SEA, in postfix order, one behind the other in one row. */
    private static final class Formulas {
        static final int OF_PULL = 0;
        static final int OF_EARNS = 1;
        static final int OF_CLAUSES = 2;
        static final int MOST = OF_CLAUSES + MOST_CLAUSES;
        /** Codes below are numbers, from here on the values of OWN WORDS. */
        static final int WORD_CODE = 10000;
        /** Codes from here on work on what is on the stack: a sign's byte, or an OWN WORD. */
        static final int WORK_CODE = 20000;
        static final int ALWAYS = WORK_CODE + ALL;
        static final int LIMIT = 1000000;

        final int[] code = new int[MOST_BYTES];
        final int[] from = new int[MOST];
        final int[] to = new int[MOST];
        final int[] used = new int[MOST];
        final int[] values = new int[OWN_WORDS];
        /** Seven open at once, each with less than seven values waiting, stay below this. */
        final int[] stack = new int[64];
        int size;

        void clear() {
            size = 0;
            Arrays.fill(from, 0);
            Arrays.fill(to, 0);
            Arrays.fill(used, 0);
        }

        void open(int which) {
            from[which] = size;
            to[which] = size;
        }

        void close(int which) {
            to[which] = size;
            for (int i = from[which]; i < size; i++) {
                if (code[i] >= WORD_CODE && code[i] < WORK_CODE) {
                    used[which] |= 1 << (code[i] - WORD_CODE);
                }
            }
        }

        void add(int c) {
            if (size < code.length) {
                code[size] = c;
                size++;
            }
        }

        boolean isThere(int which) {
            return to[which] > from[which];
        }

        boolean uses(int which, int word) {
            return (used[which] >> word & 1) == 1;
        }

        int reckon(int which) {
            int top = 0;
            for (int i = from[which]; i < to[which]; i++) {
                int c = code[i];
                if (c < WORK_CODE) {
                    if (top < stack.length) {
                        stack[top] = c < WORD_CODE ? c : values[c - WORD_CODE];
                        top++;
                    }
                } else if (c == ALWAYS) {
                    if (top < stack.length) {
                        stack[top] = 1;
                        top++;
                    }
                } else if (c == WORK_CODE + NOT) {
                    if (top >= 1) {
                        stack[top - 1] = 1 - stack[top - 1];
                    }
                } else if (top >= 2) {
                    top--;
                    stack[top - 1] = joined(c - WORK_CODE, stack[top - 1], stack[top]);
                }
            }
            return top > 0 ? stack[top - 1] : 0;
        }

        private static int joined(int work, int a, int b) {
            long result = 0;
            switch (work) {
                case '+': result = a + b; break;
                case '-': result = a - b; break;
                case '*': result = (long) a * b; break;
                case '/': result = b == 0 ? 0 : Math.floorDiv(a, b); break;
                case '%': result = b == 0 ? 0 : Math.floorMod(a, b); break;
                case '<': result = a < b ? 1 : 0; break;
                case '>': result = a > b ? 1 : 0; break;
                case '=': result = a == b ? 1 : 0; break;
                case OR: result = a | b; break;
                case AND: result = a & b; break;
                case MIN: result = a < b ? a : b; break;
                case MAX: result = a > b ? a : b; break;
                default: break;
            }
            if (result > LIMIT) {
                return LIMIT;
            }
            return result < -LIMIT ? -LIMIT : (int) result;
        }
    }

    /** What the text of a SEA tells, and what follows from that alone. */
    private static final class Chart {
        int places;
        int moons;
        int harbors;
        int debts;
        int clauses;
        int level = 20;
        int sulk = 50;
        int statements;
        final int[] moonName = new int[MOST_MOONS];
        final int[] goes = new int[MOST_MOONS];
        final int[] harborName = new int[MOST_HARBORS];
        final int[] harborPlace = new int[MOST_HARBORS];
        final int[] depth = new int[MOST_HARBORS];
        final int[] debtor = new int[MOST_DEBTS];
        final int[] creditor = new int[MOST_DEBTS];
        final int[] debt = new int[MOST_DEBTS];
        final Moment first = new Moment();
        final Formulas formulas = new Formulas();

        void clear() {
            places = 0;
            moons = 0;
            harbors = 0;
            debts = 0;
            clauses = 0;
            level = 20;
            sulk = 50;
            statements = 0;
            first.clear();
            formulas.clear();
        }

        int moonNamed(int name) {
            for (int m = 0; m < moons; m++) {
                if (moonName[m] == name) {
                    return m;
                }
            }
            return NONE;
        }

        int harborNamed(int name) {
            for (int h = 0; h < harbors; h++) {
                if (harborName[h] == name) {
                    return h;
                }
            }
            return NONE;
        }

        boolean hasHarborAt(int place) {
            for (int h = 0; h < harbors; h++) {
                if (harborPlace[h] == place) {
                    return true;
                }
            }
            return false;
        }

        int owedBy(int harbor) {
            int sum = 0;
            for (int i = 0; i < debts; i++) {
                if (debtor[i] == harbor) {
                    sum += debt[i];
                }
            }
            return sum;
        }

        /** What a HARBOR is owed by those who are not among the failing ones (bits). */
        int owedTo(int harbor, int failing) {
            int sum = 0;
            for (int i = 0; i < debts; i++) {
                if (creditor[i] == harbor && (failing >> debtor[i] & 1) == 0) {
                    sum += debt[i];
                }
            }
            return sum;
        }

        /** The HARBORS who FAIL, as bits; each round but the last one adds one at least. */
        int failing(int[] purse) {
            int fallen = 0;
            for (int round = 0; round <= MOST_HARBORS; round++) {
                int next = fallen;
                for (int h = 0; h < harbors; h++) {
                    if (purse[h] + owedTo(h, fallen) < owedBy(h)) {
                        next |= 1 << h;
                    }
                }
                if (next == fallen) {
                    return fallen;
                }
                fallen = next;
            }
            return fallen;
        }

        int placeAfter(Moment now, int moon, int later) {
            return places > 0 ? (now.place[moon] + later * goes[moon]) % places : 0;
        }

        /** How many HOURS later all MOONS are at one PLACE: they stand as now after PLACES hours. */
        int meeting(Moment now) {
            for (int later = 0; later < places && moons > 0; later++) {
                int together = 1;
                for (int m = 1; m < moons; m++) {
                    if (placeAfter(now, m, later) == placeAfter(now, 0, later)) {
                        together++;
                    }
                }
                if (together == moons) {
                    return later;
                }
            }
            return NONE;
        }
    }

    /** Cuts a text into words, numbers and signs. */
    private static final class Lexer {
        static final int END = 0;
        static final int WORD = 1;
        static final int NUMBER = 2;
        static final int SIGN = 3;
        static final int BAD = 4;
        private static final String OWN = "sea moon at goes temper harbor purse depth pays owes clause pull earns level sulk height paid due far sulks rival hour place or and not all min max";
        private static final String SIGNS = ";+-*/%()[],<>=";
        // A NAME is held in one int, each letter as 1 .. 26 in five bits, the first one highest.
        private static final int LETTER_BITS = 5;
        private static final int FIRST_LETTER = 25;

        private final int[] keys = new int[OWN_WORDS];
        private byte[] text = new byte[0];
        private int size;
        private int next;
        int kind;
        /** The first byte of what was read last. */
        int start;
        /** Where FAULT 1 is, if it can't stand there. */
        int wrongAt;
        /** A NAME's letters, a NUMBER, a sign's byte. */
        int value;
        /** The OWN WORD that it is, or NONE. */
        int own;

        Lexer() {
            int word = 0;
            int k = 0;
            for (int i = 0; i < OWN.length() && word < OWN_WORDS; i++) {
                int c = OWN.charAt(i);
                if (c == ' ') {
                    word++;
                    k = 0;
                } else {
                    keys[word] |= (c - 'a' + 1) << (FIRST_LETTER - LETTER_BITS * k);
                    k++;
                }
            }
        }

        static int letterOf(int name, int k) {
            return name >> (FIRST_LETTER - LETTER_BITS * k) & 31;
        }

        void begin(byte[] bytes, int count) {
            text = bytes;
            size = Math.min(count, bytes.length);
            next = 0;
            kind = END;
        }

        void advance() {
            int edge = kind == WORD || kind == NUMBER ? next : NONE;
            while (next < size && (text[next] == 10 || text[next] == 32)) {
                next++;
            }
            start = next;
            wrongAt = next;
            own = NONE;
            value = 0;
            int c = next < size ? text[next] : 0;
            if (next >= size) {
                kind = END;
            } else if (c >= 'a' && c <= 'z') {
                takeWord(edge == next);
            } else if (c >= '0' && c <= '9') {
                takeNumber(edge == next);
            } else {
                value = c;
                kind = c > 0 && SIGNS.indexOf((char) c) >= 0 ? SIGN : BAD;
                next++;
            }
        }

        /** A word that is glued to a word or number ahead of it can't stand there. */
        private void takeWord(boolean glued) {
            while (next < size && text[next] >= 'a' && text[next] <= 'z' && next - start < MOST_LETTERS) {
                value |= (text[next] - 'a' + 1) << (FIRST_LETTER - LETTER_BITS * (next - start));
                next++;
            }
            boolean tooLong = next < size && text[next] >= 'a' && text[next] <= 'z';
            kind = glued || tooLong ? BAD : WORD;
            wrongAt = tooLong && !glued ? next : start;
            for (int w = 0; w < OWN_WORDS && own == NONE; w++) {
                if (keys[w] == value) {
                    own = w;
                }
            }
        }

        private void takeNumber(boolean glued) {
            while (next < size && text[next] >= '0' && text[next] <= '9' && next - start < MOST_DIGITS) {
                value = value * 10 + text[next] - '0';
                next++;
            }
            boolean tooLong = next < size && text[next] >= '0' && text[next] <= '9';
            kind = glued || tooLong ? BAD : NUMBER;
            wrongAt = tooLong && !glued ? next : start;
        }
    }

    /** Reads the text of a SEA into a spare chart, or finds its first FAULT. */
    private static final class Parser {
        private final Lexer lexer = new Lexer();
        private Chart chart = new Chart();
        private int openNow;
        int faultCode;
        int faultAt = NONE;

        boolean read(byte[] text, int size) {
            chart.clear();
            faultCode = 0;
            faultAt = NONE;
            openNow = 0;
            lexer.begin(text, size);
            lexer.advance();
            if (lexer.kind == Lexer.END) {
                wrong();
            }
            for (int n = 0; n <= MOST_STATEMENTS && faultCode == 0 && lexer.kind != Lexer.END; n++) {
                if (n == MOST_STATEMENTS) {
                    fail(6, lexer.start);
                } else {
                    statement(n == 0);
                    sign(';');
                    chart.statements = n + 1;
                }
            }
            return faultCode == 0;
        }

        /** Gives the chart that was read away, and keeps the old one for the next text. */
        Chart handOver(Chart old) {
            Chart done = chart;
            chart = old;
            return done;
        }

        /** The first FAULT counts; behind it nothing fits any more. */
        private void fail(int code, int at) {
            if (faultCode == 0) {
                faultCode = code;
                faultAt = at;
            }
            lexer.kind = Lexer.BAD;
            lexer.own = NONE;
        }

        private void wrong() {
            fail(1, lexer.wrongAt);
        }

        private boolean isWord(int word) {
            return lexer.kind == Lexer.WORD && lexer.own == word;
        }

        private boolean isSign(int sign) {
            return lexer.kind == Lexer.SIGN && lexer.value == sign;
        }

        private void word(int word) {
            if (isWord(word)) {
                lexer.advance();
            } else {
                wrong();
            }
        }

        private void sign(int sign) {
            if (isSign(sign)) {
                lexer.advance();
            } else {
                wrong();
            }
        }

        private int number(int low, int high) {
            int n = lexer.value;
            if (lexer.kind != Lexer.NUMBER) {
                wrong();
            } else if (n < low || n > high) {
                fail(4, lexer.start);
            } else {
                lexer.advance();
                return n;
            }
            return low;
        }

        private boolean isName() {
            return lexer.kind == Lexer.WORD && lexer.own == NONE;
        }

        private int newName() {
            int name = lexer.value;
            if (!isName()) {
                wrong();
            } else if (chart.moonNamed(name) != NONE || chart.harborNamed(name) != NONE) {
                fail(2, lexer.start);
            } else {
                lexer.advance();
            }
            return name;
        }

        private int moonName() {
            int moon = chart.moonNamed(lexer.value);
            knownName(moon != NONE);
            return moon;
        }

        private int harborName(int otherThan) {
            int harbor = chart.harborNamed(lexer.value);
            knownName(harbor != NONE && harbor != otherThan);
            return harbor;
        }

        private void knownName(boolean fits) {
            if (!isName()) {
                wrong();
            } else if (!fits) {
                fail(3, lexer.start);
            } else {
                lexer.advance();
            }
        }

        /** Whether there is room for one more of this kind of STATEMENT; its first word is read then. */
        private boolean oneMore(boolean room) {
            if (room) {
                lexer.advance();
            } else {
                fail(6, lexer.start);
            }
            return faultCode == 0;
        }

        private void statement(boolean first) {
            int word = lexer.kind == Lexer.WORD ? lexer.own : NONE;
            if (first != (word == SEA)) {
                wrong();
                return;
            }
            switch (word) {
                case SEA: lexer.advance(); chart.places = number(4, MOST_PLACES); break;
                case MOON: moonStatement(); break;
                case HARBOR: harborStatement(); break;
                case PAYS: paysStatement(); break;
                case OWES: owesStatement(); break;
                case LEVEL: lexer.advance(); chart.level = number(0, 99); break;
                case SULK: lexer.advance(); chart.sulk = number(1, 999); break;
                case PULL:
                case EARNS:
                case CLAUSE:
                    int which = formulaOf(word);
                    if (which != NONE) {
                        chart.formulas.open(which);
                        if (word == CLAUSE) {
                            test();
                        } else {
                            sum();
                        }
                        chart.formulas.close(which);
                    }
                    break;
                default: wrong(); break;
            }
        }

        /** Where the SUM or TEST of a STATEMENT goes, or NONE if it is one too many. */
        private int formulaOf(int word) {
            int which = word == PULL ? Formulas.OF_PULL : Formulas.OF_EARNS;
            if (word == CLAUSE) {
                which = Formulas.OF_CLAUSES + chart.clauses;
                if (!oneMore(chart.clauses < MOST_CLAUSES)) {
                    return NONE;
                }
                chart.clauses++;
                return which;
            }
            return oneMore(!chart.formulas.isThere(which)) ? which : NONE;
        }

        private void moonStatement() {
            int m = chart.moons;
            if (!oneMore(m < MOST_MOONS)) {
                return;
            }
            chart.moonName[m] = newName();
            word(AT);
            chart.first.place[m] = number(0, chart.places - 1);
            word(GOES);
            chart.goes[m] = number(0, 23);
            word(TEMPER);
            chart.first.temper[m] = number(0, MOST_TEMPER);
            chart.moons = m + 1;
        }

        private void harborStatement() {
            int h = chart.harbors;
            if (!oneMore(h < MOST_HARBORS)) {
                return;
            }
            chart.harborName[h] = newName();
            word(AT);
            chart.harborPlace[h] = freePlace();
            word(PURSE);
            chart.first.purse[h] = number(0, 999);
            word(DEPTH);
            chart.depth[h] = number(0, 99);
            chart.harbors = h + 1;
        }

        private int freePlace() {
            if (lexer.kind == Lexer.NUMBER && chart.hasHarborAt(lexer.value)) {
                fail(4, lexer.start);
            }
            return number(0, chart.places - 1);
        }

        private void paysStatement() {
            lexer.advance();
            int harbor = harborName(NONE);
            int moon = moonName();
            int n = number(0, MOST_BID);
            if (faultCode == 0) {
                chart.first.offer[Moment.pair(harbor, moon)] = n;
            }
        }

        private void owesStatement() {
            int i = chart.debts;
            if (!oneMore(i < MOST_DEBTS)) {
                return;
            }
            int debtor = harborName(NONE);
            int creditor = harborName(debtor);
            int n = number(1, 999);
            if (faultCode == 0) {
                chart.debtor[i] = debtor;
                chart.creditor[i] = creditor;
                chart.debt[i] = n;
                chart.debts = i + 1;
            }
        }

        private void work(int what) {
            chart.formulas.add(Formulas.WORK_CODE + what);
        }

        /** One more ( [ not is open; this bounds how deep the methods below call one another. */
        private boolean opened() {
            if (openNow >= MOST_OPEN) {
                fail(5, lexer.start);
                return false;
            }
            openNow++;
            lexer.advance();
            return true;
        }

        private void test() {
            both();
            for (int i = 0; i < MOST_BYTES && isWord(OR); i++) {
                lexer.advance();
                both();
                work(OR);
            }
        }

        private void both() {
            fact();
            for (int i = 0; i < MOST_BYTES && isWord(AND); i++) {
                lexer.advance();
                fact();
                work(AND);
            }
        }

        private void fact() {
            if (isWord(NOT)) {
                if (opened()) {
                    fact();
                    openNow--;
                    work(NOT);
                }
            } else if (isSign('[')) {
                if (opened()) {
                    test();
                    sign(']');
                    openNow--;
                }
            } else if (isWord(ALL)) {
                work(ALL);
                lexer.advance();
            } else {
                sum();
                int sign = lexer.value;
                if (isSign('<') || isSign('>') || isSign('=')) {
                    lexer.advance();
                    sum();
                    work(sign);
                } else {
                    wrong();
                }
            }
        }

        private void sum() {
            product();
            for (int i = 0; i < MOST_BYTES && (isSign('+') || isSign('-')); i++) {
                int sign = lexer.value;
                lexer.advance();
                product();
                work(sign);
            }
        }

        private void product() {
            part();
            for (int i = 0; i < MOST_BYTES && (isSign('*') || isSign('/') || isSign('%')); i++) {
                int sign = lexer.value;
                lexer.advance();
                part();
                work(sign);
            }
        }

        private void part() {
            if (lexer.kind == Lexer.NUMBER) {
                chart.formulas.add(lexer.value);
                lexer.advance();
            } else if (isSign('(')) {
                if (opened()) {
                    sum();
                    sign(')');
                    openNow--;
                }
            } else if (isWord(MIN) || isWord(MAX)) {
                ofTwo(lexer.own);
            } else if (isValueWord()) {
                chart.formulas.add(Formulas.WORD_CODE + lexer.own);
                lexer.advance();
            } else {
                wrong();
            }
        }

        private void ofTwo(int word) {
            lexer.advance();
            if (!isSign('(')) {
                wrong();
            } else if (opened()) {
                sum();
                sign(',');
                sum();
                sign(')');
                openNow--;
                work(word);
            }
        }

        private boolean isValueWord() {
            int word = lexer.own;
            return lexer.kind == Lexer.WORD
                    && (word >= HEIGHT && word <= PLACE || word == DEPTH || word == PURSE || word == TEMPER);
        }
    }

    /** Reckons PULLS and HEIGHTS of a moment, and lets an HOUR go by. */
    private static final class Tide {
        final int[] pulls = new int[MOST_MOONS * MOST_PLACES];
        final int[] heights = new int[MOST_PLACES];

        void rise(Chart chart, Moment now) {
            int inAll = now.offeredInAll();
            for (int m = 0; m < chart.moons; m++) {
                int paid = now.offeredTo(m);
                fillPulls(chart, now, m, paid, inAll - paid);
            }
            settle(chart);
        }

        /**
         * The PULLS of a MOON that is bid so much, its rivals so much, on all PLACES. A SUM that does not
         * ask for the PLACE is the same as many steps to the left and to the right.
         */
        void fillPulls(Chart chart, Moment now, int moon, int paid, int rival) {
            tellMoon(chart, now, moon, paid, rival);
            Formulas formulas = chart.formulas;
            boolean byPlace = formulas.uses(Formulas.OF_PULL, PLACE);
            boolean varies = byPlace || formulas.uses(Formulas.OF_PULL, FAR);
            int base = moon * MOST_PLACES;
            int from = now.place[moon];
            int strength = 0;
            int most = byPlace ? chart.places - 1 : chart.places / 2;
            for (int steps = 0; steps <= most && chart.places > 0; steps++) {
                int right = (from + steps) % chart.places;
                if (varies || steps == 0) {
                    formulas.values[FAR] = Math.min(steps, chart.places - steps);
                    formulas.values[PLACE] = right;
                    strength = within(-MOST_PULL, formulas.reckon(Formulas.OF_PULL), MOST_PULL);
                }
                pulls[base + right] = strength;
                if (!byPlace) {
                    pulls[base + (from + chart.places - steps) % chart.places] = strength;
                }
            }
        }

        int totalOf(Chart chart, int moon) {
            int total = 0;
            for (int p = 0; p < chart.places; p++) {
                total += pulls[moon * MOST_PLACES + p];
            }
            return total;
        }

        /** The HEIGHTS that the filled PULLS make. */
        void settle(Chart chart) {
            int total = 0;
            for (int m = 0; m < chart.moons; m++) {
                total += totalOf(chart, m);
            }
            for (int p = 0; p < chart.places; p++) {
                int pulled = 0;
                for (int m = 0; m < chart.moons; m++) {
                    pulled += pulls[m * MOST_PLACES + p];
                }
                heights[p] = heightFrom(chart, p, pulled, total);
            }
        }

        static int heightFrom(Chart chart, int place, int pulled, int total) {
            if (chart.places <= 0) {
                return chart.level;
            }
            int share = Math.floorDiv(total, chart.places);
            int left = total - share * chart.places;
            return chart.level + pulled - share - (place < left ? 1 : 0);
        }

        private static void tellMoon(Chart chart, Moment now, int moon, int paid, int rival) {
            int[] values = chart.formulas.values;
            int due = now.dueTo(moon);
            values[HEIGHT] = 0;
            values[DEPTH] = 0;
            values[PURSE] = 0;
            values[PAID] = paid;
            values[DUE] = due;
            values[TEMPER] = now.temper[moon];
            values[SULKS] = due >= chart.sulk ? 1 : 0;
            values[RIVAL] = rival;
            values[HOUR] = now.hour;
        }

        private static void tellHarbor(Chart chart, Moment now, int harbor, int height) {
            int[] values = chart.formulas.values;
            values[HEIGHT] = height;
            values[DEPTH] = chart.depth[harbor];
            values[PURSE] = now.purse[harbor];
            values[PAID] = now.offeredBy(harbor);
            values[DUE] = now.dueFrom(harbor);
            values[FAR] = 0;
            values[TEMPER] = 0;
            values[SULKS] = 0;
            values[RIVAL] = 0;
            values[HOUR] = now.hour;
            values[PLACE] = chart.harborPlace[harbor];
        }

        /** The first CLAUSE that is BROKEN by a HARBOR at the HEIGHTS of now, or NONE. */
        int brokenBy(Chart chart, Moment now, int harbor) {
            if (chart.clauses == 0) {
                return NONE;
            }
            tellHarbor(chart, now, harbor, heights[chart.harborPlace[harbor]]);
            for (int c = 0; c < chart.clauses; c++) {
                if (chart.formulas.reckon(Formulas.OF_CLAUSES + c) == 0) {
                    return c;
                }
            }
            return NONE;
        }

        void passHour(Chart chart, Moment now) {
            if (chart.formulas.uses(Formulas.OF_EARNS, HEIGHT)) {
                rise(chart, now);
            }
            passRisenHour(chart, now);
        }

        /** An HOUR whose HEIGHTS are reckoned already, or aren't asked for by what is earned. */
        void passRisenHour(Chart chart, Moment now) {
            if (chart.formulas.isThere(Formulas.OF_EARNS)) {
                for (int h = 0; h < chart.harbors; h++) {
                    earn(chart, now, h);
                }
            }
            for (int h = 0; h < chart.harbors; h++) {
                for (int m = 0; m < chart.moons; m++) {
                    pay(now, h, Moment.pair(h, m));
                }
            }
            for (int m = 0; m < chart.moons; m++) {
                now.place[m] = chart.placeAfter(now, m, 1);
            }
            now.hour = Math.min(LAST_HOUR, now.hour + 1);
        }

        private void earn(Chart chart, Moment now, int harbor) {
            tellHarbor(chart, now, harbor, heights[chart.harborPlace[harbor]]);
            int earned = within(0, chart.formulas.reckon(Formulas.OF_EARNS), MOST_EARNED);
            now.purse[harbor] = Math.min(MOST_COINS, now.purse[harbor] + earned);
        }

        private static void pay(Moment now, int harbor, int pair) {
            if (now.purse[harbor] >= now.offer[pair]) {
                now.purse[harbor] -= now.offer[pair];
            } else {
                now.due[pair] = Math.min(MOST_COINS, now.due[pair] + now.offer[pair]);
            }
            if (now.due[pair] > 0 && now.purse[harbor] >= now.due[pair]) {
                now.purse[harbor] -= now.due[pair];
                now.due[pair] = 0;
            }
        }
    }

    /** What is AHEAD, reckoned HOUR by HOUR as far as it was asked since the last change. */
    private static final class Forecast {
        private final Tide tide = new Tide();
        private final Moment then = new Moment();
        private final int[] pulls = new int[MOST_MOONS * MOST_PLACES];
        private final int[] heights = new int[(FAR_AHEAD + 1) * MOST_PLACES];
        private final int[] purses = new int[(FAR_AHEAD + 1) * MOST_HARBORS];
        private final int[] dues = new int[(FAR_AHEAD + 1) * MOST_HARBORS];
        private final Moment now;
        private Chart chart;
        /** The last HOUR AHEAD that there is, and how many are reckoned. */
        private int last = FAR_AHEAD;
        private int known;
        int brokenHour = NONE;
        int brokenHarbor = NONE;
        int brokenClause = NONE;

        Forecast(Chart firstChart, Moment theNow) {
            chart = firstChart;
            now = theNow;
        }

        void begin(Chart newChart) {
            chart = newChart;
            last = Math.min(FAR_AHEAD, LAST_HOUR - now.hour);
            known = 0;
            brokenHour = NONE;
            brokenHarbor = NONE;
            brokenClause = NONE;
        }

        /** Whether there is such an HOUR AHEAD; without a sea none is. */
        boolean reaches(int ahead) {
            return chart.places > 0 && ahead >= 0 && ahead <= last;
        }

        /** Reckons up to an HOUR AHEAD; this must be done before one asks for it. */
        void learn(int ahead) {
            int upTo = Math.min(ahead, last);
            for (int t = known; t <= upTo; t++) {
                if (t == 0) {
                    then.copyFrom(now);
                } else {
                    tide.passRisenHour(chart, then);
                }
                tide.rise(chart, then);
                write(t);
                known = t + 1;
            }
        }

        int pullNow(int moon, int place) {
            return pulls[moon * MOST_PLACES + place];
        }

        int heightOf(int place, int ahead) {
            return heights[ahead * MOST_PLACES + place];
        }

        int purseOf(int harbor, int ahead) {
            return purses[ahead * MOST_HARBORS + harbor];
        }

        int dueFrom(int harbor, int ahead) {
            return dues[ahead * MOST_HARBORS + harbor];
        }

        boolean strands(int harbor, int ahead) {
            return heightOf(chart.harborPlace[harbor], ahead) < chart.depth[harbor];
        }

        int countStranded(int ahead) {
            int count = 0;
            for (int h = 0; h < chart.harbors; h++) {
                if (strands(h, ahead)) {
                    count++;
                }
            }
            return count;
        }

        int firstStrandedFrom(int ahead) {
            for (int t = ahead; t <= last; t++) {
                learn(t);
                if (countStranded(t) > 0) {
                    return t;
                }
            }
            return NONE;
        }

        boolean findBroken() {
            for (int t = 0; t <= last && brokenHour == NONE; t++) {
                learn(t);
            }
            return brokenHour != NONE;
        }

        /** How many HOURS a SHIP needs from PLACE to PLACE, or NONE. */
        int crossing(int from, int to, int draught) {
            int reached = 1 << from;
            for (int t = 0; t <= last && reached != 0; t++) {
                learn(t);
                reached = (t == 0 ? reached : spread(reached)) & floating(t, draught);
                if ((reached >> to & 1) == 1) {
                    return t;
                }
            }
            return NONE;
        }

        /** The last HOUR AHEAD from which a SHIP still comes from PLACE to PLACE, or NONE. */
        int lastStart(int from, int to, int draught) {
            int good = 0;
            learn(last);
            for (int t = last; t >= 0; t--) {
                good = (1 << to | spread(good)) & floating(t, draught);
                if ((good >> from & 1) == 1) {
                    return t;
                }
            }
            return NONE;
        }

        private int floating(int ahead, int draught) {
            int mask = 0;
            for (int p = 0; p < chart.places; p++) {
                if (heightOf(p, ahead) >= draught) {
                    mask |= 1 << p;
                }
            }
            return mask;
        }

        /** The PLACES of a set (bits) and those beside them in the ring. */
        private int spread(int mask) {
            if (chart.places <= 0) {
                return 0;
            }
            int wide = mask << 1 | mask | mask >> 1;
            wide |= mask >> (chart.places - 1) & 1;
            wide |= (mask & 1) << (chart.places - 1);
            return wide & (1 << chart.places) - 1;
        }

        private void write(int t) {
            if (t == 0) {
                System.arraycopy(tide.pulls, 0, pulls, 0, pulls.length);
            }
            System.arraycopy(tide.heights, 0, heights, t * MOST_PLACES, MOST_PLACES);
            for (int h = 0; h < chart.harbors; h++) {
                purses[t * MOST_HARBORS + h] = then.purse[h];
                dues[t * MOST_HARBORS + h] = then.dueFrom(h);
                int clause = brokenHour == NONE ? tide.brokenBy(chart, then, h) : NONE;
                if (clause != NONE) {
                    brokenHour = t;
                    brokenHarbor = h;
                    brokenClause = clause;
                }
            }
        }
    }

    /** WISHED and REST. */
    private static final class Bidding {
        private static final int MOST_WISHED = 10;
        private static final int MOST_RESTED = 4;
        private static final int MOST_ROUNDS = 12;
        private static final int BIDS = MOST_WISHED + 1;
        private static final int RIVAL_SUMS = (MOST_MOONS - 1) * MOST_WISHED + 1;

        private final Tide tide = new Tide();
        /** By MOON, its bid and the sum of the other bids: the PULL on the bidder's PLACE, on all PLACES. */
        private final int[] pullHere = new int[MOST_MOONS * BIDS * RIVAL_SUMS];
        private final int[] pullAll = new int[MOST_MOONS * BIDS * RIVAL_SUMS];
        private final int[] reckonedIn = new int[MOST_MOONS * BIDS * RIVAL_SUMS];
        private final int[] base = new int[MOST_MOONS];
        private final int[] trial = new int[MOST_MOONS];
        private final int[] best = new int[MOST_MOONS];
        private final Moment now;
        private Chart chart;
        private int bidder;
        private int turn;
        private int wishedHarbor = NONE;
        private int wishedHeight;
        int wishedSum = NONE;
        final int[] wishedBids = new int[MOST_MOONS];
        final Moment rested = new Moment();
        /** 0 when REST isn't reckoned yet. */
        int restRound;

        Bidding(Chart firstChart, Moment theNow) {
            chart = firstChart;
            now = theNow;
        }

        void begin(Chart newChart) {
            chart = newChart;
            wishedHarbor = NONE;
            restRound = 0;
        }

        /** Whether there are WISHED bids; they and their sum are kept. */
        boolean findWished(int harbor, int height) {
            if (harbor != wishedHarbor || height != wishedHeight) {
                wishedHarbor = harbor;
                wishedHeight = height;
                wishedSum = NONE;
                takeUp(harbor, now);
                searchWished(height);
            }
            return wishedSum != NONE;
        }

        private void searchWished(int height) {
            int most = MOST_MOONS * MOST_WISHED + 1;
            int least = most;
            int tries = triesUpTo(MOST_WISHED);
            for (int i = 0; i < tries; i++) {
                int sum = trialSum();
                if (sum < least && trialHeight(now) >= height) {
                    least = sum;
                    System.arraycopy(trial, 0, wishedBids, 0, MOST_MOONS);
                }
                nextTrial(MOST_WISHED);
            }
            if (least < most) {
                wishedSum = least;
            }
        }

        void findRest() {
            if (restRound > 0) {
                return;
            }
            rested.copyFrom(now);
            restRound = MOST_ROUNDS + 1;
            for (int round = 1; round <= MOST_ROUNDS && restRound > MOST_ROUNDS; round++) {
                boolean moved = false;
                for (int h = 0; h < chart.harbors; h++) {
                    moved |= takesOthers(h);
                }
                if (!moved) {
                    restRound = round;
                }
            }
        }

        /** A HARBOR takes its best bids: whether these are other ones than it had. */
        private boolean takesOthers(int harbor) {
            takeUp(harbor, rested);
            int bestGain = NOTHING;
            int ownGain = NOTHING;
            int tries = triesUpTo(MOST_RESTED);
            for (int i = 0; i < tries; i++) {
                int gain = trialHeight(rested) - trialSum();
                if (gain > bestGain) {
                    bestGain = gain;
                    System.arraycopy(trial, 0, best, 0, MOST_MOONS);
                }
                if (isOwn(harbor)) {
                    ownGain = gain;
                }
                nextTrial(MOST_RESTED);
            }
            if (ownGain == bestGain) {
                return false;
            }
            System.arraycopy(best, 0, rested.offer, Moment.pair(harbor, 0), MOST_MOONS);
            return true;
        }

        private boolean isOwn(int harbor) {
            boolean same = true;
            for (int m = 0; m < chart.moons; m++) {
                same &= trial[m] == rested.offer[Moment.pair(harbor, m)];
            }
            return same;
        }

        /** Makes ready for the trials of a HARBOR: what the others bid stays. */
        private void takeUp(int harbor, Moment moment) {
            bidder = harbor;
            turn++;
            Arrays.fill(trial, 0);
            for (int m = 0; m < MOST_MOONS; m++) {
                base[m] = moment.offeredTo(m) - moment.offer[Moment.pair(harbor, m)];
            }
        }

        private int triesUpTo(int top) {
            int tries = 1;
            for (int m = 0; m < chart.moons; m++) {
                tries *= top + 1;
            }
            return tries;
        }

        /** The next trial by MOONS: the last MOON's bid changes first. */
        private void nextTrial(int top) {
            for (int m = chart.moons - 1; m >= 0; m--) {
                if (trial[m] < top) {
                    trial[m]++;
                    return;
                }
                trial[m] = 0;
            }
        }

        private int trialSum() {
            return trial[0] + trial[1] + trial[2];
        }

        /** The bidder's HEIGHT by the trial; each slot is reckoned once in a turn. */
        private int trialHeight(Moment moment) {
            int sum = trialSum();
            int place = chart.harborPlace[bidder];
            int here = 0;
            int total = 0;
            boolean rivalry = chart.formulas.uses(Formulas.OF_PULL, RIVAL);
            for (int m = 0; m < chart.moons; m++) {
                int others = rivalry ? sum - trial[m] : 0;
                int slot = (m * BIDS + trial[m]) * RIVAL_SUMS + others;
                if (reckonedIn[slot] != turn) {
                    int rival = base[0] + base[1] + base[2] - base[m] + others;
                    tide.fillPulls(chart, moment, m, base[m] + trial[m], rival);
                    pullHere[slot] = tide.pulls[m * MOST_PLACES + place];
                    pullAll[slot] = tide.totalOf(chart, m);
                    reckonedIn[slot] = turn;
                }
                here += pullHere[slot];
                total += pullAll[slot];
            }
            return Tide.heightFrom(chart, place, here, total);
        }
    }

    /** What is SEEN, and who may have paid for it. */
    private static final class Witness {
        private final Tide tide = new Tide();
        private final Moment some = new Moment();
        private final int[] seenPlace = new int[MOST_SEEN];
        private final int[] seenHeight = new int[MOST_SEEN];
        private final Moment now;
        private Chart chart;
        private boolean judged;
        int rows;
        int sets;
        int inAll;
        int inSome;

        Witness(Chart firstChart, Moment theNow) {
            chart = firstChart;
            now = theNow;
        }

        void begin(Chart newChart) {
            chart = newChart;
            judged = false;
        }

        void forget() {
            rows = 0;
        }

        /** Takes what is SEEN from a tape; false, and nothing is taken, if it tells no such rows. */
        boolean take(byte[] bytes, int size, int places) {
            if (size < 3 || size > 3 * MOST_SEEN || size > bytes.length || size % 3 != 0) {
                return false;
            }
            for (int i = 0; i < size; i += 3) {
                if ((bytes[i] & 255) >= places) {
                    return false;
                }
            }
            rows = size / 3;
            for (int i = 0; i < rows; i++) {
                seenPlace[i] = bytes[3 * i] & 255;
                seenHeight[i] = ((bytes[3 * i + 1] & 255) << 8 | bytes[3 * i + 2] & 255) - 1000;
            }
            judged = false;
            return true;
        }

        void judge() {
            if (judged) {
                return;
            }
            judged = true;
            sets = 0;
            inSome = 0;
            int everyone = (1 << chart.harbors) - 1;
            inAll = everyone;
            for (int set = 0; set <= everyone; set++) {
                if (explains(set)) {
                    sets++;
                    inAll &= set;
                    inSome |= set;
                }
            }
            if (sets == 0) {
                inAll = 0;
            }
        }

        private boolean explains(int set) {
            some.copyFrom(now);
            for (int h = 0; h < chart.harbors; h++) {
                for (int m = 0; m < chart.moons && (set >> h & 1) == 0; m++) {
                    some.offer[Moment.pair(h, m)] = 0;
                }
            }
            tide.rise(chart, some);
            for (int i = 0; i < rows; i++) {
                if (tide.heights[seenPlace[i]] != seenHeight[i]) {
                    return false;
                }
            }
            return true;
        }
    }

    /** The moments ahead of the last ACTS, the oldest one giving way. */
    private static final class Past {
        private final Moment[] ring = new Moment[MOST_ACTS];
        private int next;
        int acts;

        Past() {
            for (int i = 0; i < MOST_ACTS; i++) {
                ring[i] = new Moment();
            }
        }

        void forget() {
            acts = 0;
        }

        void keep(Moment moment) {
            ring[next].copyFrom(moment);
            next = (next + 1) % MOST_ACTS;
            acts = Math.min(MOST_ACTS, acts + 1);
        }

        void bringBack(Moment moment) {
            if (acts > 0) {
                next = (next + MOST_ACTS - 1) % MOST_ACTS;
                acts--;
                moment.copyFrom(ring[next]);
            }
        }
    }

    /** Writes and reads IMAGES. */
    private static final class Picture {
        private static final int MOST_OCTETS = 3 + 2 * MOST_MOONS + MOST_HARBORS * (2 + 3 * MOST_MOONS);

        final byte[] bytes = new byte[MOST_OCTETS];
        final Moment shown = new Moment();
        int size;
        private byte[] source = new byte[0];
        private int next;
        private boolean fits;

        void paint(Chart chart, Moment now) {
            size = 0;
            putTwo(now.hour);
            for (int m = 0; m < chart.moons; m++) {
                put(now.place[m]);
                put(now.temper[m]);
            }
            for (int h = 0; h < chart.harbors; h++) {
                putTwo(now.purse[h]);
                for (int m = 0; m < chart.moons; m++) {
                    put(now.offer[Moment.pair(h, m)]);
                    putTwo(now.due[Moment.pair(h, m)]);
                }
            }
            put(checkOf(bytes, size));
        }

        /** Whether bytes are AN IMAGE of this SEA; what it tells is kept. */
        boolean shows(Chart chart, byte[] image, int count) {
            int due = 3 + 2 * chart.moons + chart.harbors * (2 + 3 * chart.moons);
            if (count != due || count > image.length || (image[count - 1] & 255) != checkOf(image, count - 1)) {
                return false;
            }
            source = image;
            next = 0;
            fits = true;
            shown.clear();
            shown.hour = getTwo(LAST_HOUR);
            for (int m = 0; m < chart.moons; m++) {
                shown.place[m] = get(chart.places - 1);
                shown.temper[m] = get(MOST_TEMPER);
            }
            for (int h = 0; h < chart.harbors; h++) {
                shown.purse[h] = getTwo(MOST_COINS);
                for (int m = 0; m < chart.moons; m++) {
                    shown.offer[Moment.pair(h, m)] = get(MOST_BID);
                    shown.due[Moment.pair(h, m)] = getTwo(MOST_COINS);
                }
            }
            return fits;
        }

        private static int checkOf(byte[] row, int count) {
            int c = 89;
            for (int i = 0; i < count && i < row.length; i++) {
                c = (5 * c + (row[i] & 255)) % 251;
            }
            return c;
        }

        private void put(int octet) {
            if (size < bytes.length) {
                bytes[size] = (byte) octet;
                size++;
            }
        }

        private void putTwo(int number) {
            put(number >> 8);
            put(number);
        }

        private int octetAt(int i) {
            return i >= 0 && i < source.length ? source[i] & 255 : 0;
        }

        private int get(int most) {
            int n = octetAt(next);
            next++;
            fits &= n <= most;
            return n;
        }

        private int getTwo(int most) {
            int n = octetAt(next) << 8 | octetAt(next + 1);
            next += 2;
            fits &= n <= most;
            return n;
        }
    }
}
