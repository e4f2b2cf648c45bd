/** Promises 1 to 33: each argument's last value that can be and the first one that can't; each refused call. */
public final class CallBoundsTest {
    private static final Check CHECK = new Check();
    private static final int NOTHING = -1000000000;
    private static final int LOW = Integer.MIN_VALUE;
    private static final int HIGH = Integer.MAX_VALUE;
    private static final String SEA = "sea 4;moon m at 0 goes 1 temper 4;moon nnnnnn at 3 goes 5 temper 0;"
            + "harbor h at 0 purse 5 depth 0;harbor i at 2 purse 40 depth 9;pays h m 3;pays i nnnnnn 1;owes h i 7;"
            + "pull paid*(1-far);earns 1;clause purse<60;";

    public static void main(String[] args) {
        newObject();
        feed();
        feedRefused();
        end();
        endAlone();
        endRefused();
        sea();
        seaRefused();
        seaWithoutStatement();
        fault();
        has();
        letter();
        moon();
        harbor();
        bids();
        pull();
        height();
        ahead();
        broken();
        stranded();
        bid();
        bidRefused();
        give();
        giveRefused();
        soothe();
        sootheRefused();
        hours();
        hoursRefused();
        storms();
        stormsRefused();
        undo();
        undoRefused();
        seed();
        seedRefused();
        wished();
        rest();
        shipArguments();
        meet();
        see();
        seeRefused();
        payers();
        image();
        octet();
        on();
        onRefused();
        status();
        tapeStays();
        CHECK.finish("CallBoundsTest");
    }

    /** An object in the midst of its work: HOURS gone by, ACTS to undo, rows SEEN, an image, a FAULT of a text. */
    private static MoonTender ready() {
        MoonTender x = CHECK.sea(SEA);
        x.hours(2);
        x.bid(0, 1, 4);
        x.image();
        Check.see(x, 0, 20);
        Check.sea(x, "sea 4;level");
        return x;
    }

    private static long bit(boolean answer) {
        return answer ? 1 : 0;
    }

    /** A call with three arguments. */
    private interface Three {
        int of(MoonTender x, int a, int b, int c);
    }

    private static void answers(String name, Three call, int want, int[]... rows) {
        MoonTender x = ready();
        for (int[] row : rows) {
            CHECK.due(name + " of " + java.util.Arrays.toString(row), call.of(x, row[0], row[1], row[2]), want);
        }
        int refusals = 0;
        for (int what = 0; what < 6; what++) {
            refusals += x.status(what);
        }
        CHECK.due(name + " is counted nowhere", refusals, 1);
    }

    private static void newObject() {
        CHECK.says("No sea, no MOONS; the seed is 1");
        MoonTender x = new MoonTender();
        int[] has = {0, 0, 0, 0, 0, 20, 50, 0, 0, 0, 0, 1};
        for (int what = 0; what < 12; what++) {
            CHECK.due("has(" + what + ")", x.has(what), has[what]);
        }
        CHECK.due("letter", x.letter(0, 0, 0) & x.letter(1, 0, 0), -1);
        CHECK.due("moon", x.moon(0, 0), -1);
        CHECK.due("harbor", x.harbor(0, 0), -1);
        CHECK.due("bids", x.bids(0, 0, 0), -1);
        CHECK.due("pull", x.pull(0, 0), NOTHING);
        CHECK.due("height", x.height(0, 0), NOTHING);
        CHECK.due("ahead", x.ahead(0, 0, 0), -1);
        CHECK.due("broken", x.broken(0), -1);
        CHECK.due("stranded", x.stranded(0, 0), -1);
        CHECK.due("first stranded", x.stranded(0, 1), -1);
        CHECK.due("wished", x.wished(0, 0, -1), -1);
        CHECK.due("rest", x.rest(-1), -1);
        CHECK.due("rest of bids", x.rest(0), -1);
        CHECK.due("across", x.across(0, 0, 0), -1);
        CHECK.due("latest", x.latest(0, 0, 0), -1);
        CHECK.due("meet", x.meet(0), -1);
        CHECK.due("payers", x.payers(0), -1);
        CHECK.due("octet", x.octet(0), -1);
        CHECK.refused("bid", x, 2, -1, y -> y.bid(0, 0, 0));
        CHECK.refused("give", x, 2, 0, y -> bit(y.give(0, 1, 1)));
        CHECK.refused("soothe", x, 2, -1, y -> y.soothe(0, 0));
        CHECK.refused("hours", x, 3, -1, y -> y.hours(1));
        CHECK.refused("storms", x, 3, -1, y -> y.storms(1));
        CHECK.refused("undo", x, 4, 0, y -> bit(y.undo()));
        MoonTender z = new MoonTender();
        CHECK.refused("sea of an empty tape", z, 1, -1, y -> y.sea());
        CHECK.refused("see of an empty tape", z, 5, -1, y -> y.see());
        CHECK.refused("on of an empty tape", z, 5, 0, y -> bit(y.on()));
        CHECK.refused("see without a sea", z, 5, -1, y -> Check.see(y, 0, 20));
        CHECK.refused("on without a sea", z, 5, 0, y -> bit(Check.on(y, Check.image(0, 0))));
        CHECK.due("image without a sea", z.image(), 3);
    }

    private static void feed() {
        CHECK.says("Twenty bytes come behind those on the tape, of each number the highest first: how many there are");
        MoonTender x = new MoonTender();
        CHECK.due("first", x.feed(0x73656120, 0x3234200a, 0x3b206c65, 0x76656c20, 0x39393b20), 20);
        CHECK.due("sea 24 ; level 99;", x.sea(), 2);
        CHECK.due("places", x.has(0), 24);
        CHECK.due("level", x.has(5), 99);
        x.feed(0x73656120, 0x343b2020, 0x20202020, 0x20202020, 0x20206c65);
        x.feed(0x76656c20, 0x373b2020, 0x20202020, 0x20202020, 0x20202020);
        CHECK.due("over the edge of twenty", x.sea(), 2);
        CHECK.due("level", x.has(5), 7);
        for (int n = 20; n <= 1600; n += 20) {
            CHECK.due("up to " + n, x.feed(LOW, HIGH, -1, 0, 1), n);
        }
        CHECK.due("nothing is refused", x.status(0), 0);
    }

    private static MoonTender fed(int bytes) {
        MoonTender x = CHECK.sea("sea 4;");
        for (int n = 0; n < bytes; n += 20) {
            x.feed(0x20202020, 0x20202020, 0x20202020, 0x20202020, 0x20202020);
        }
        CHECK.due("end(" + bytes + ")", x.end(bytes), true);
        return x;
    }

    private static void feedRefused() {
        CHECK.says("NONE, refused (0), if there would be more than 1600");
        for (int bytes : new int[] {1581, 1590, 1599, 1600}) {
            MoonTender x = fed(bytes);
            CHECK.refused("feed behind " + bytes, x, 0, -1, y -> y.feed(35, 35, 35, 35, 35));
            CHECK.due("the tape has no more", x.end(bytes + 1), false);
            CHECK.due("and no less", x.end(bytes), true);
            CHECK.due("nor other bytes", x.sea(), -1);
            CHECK.due("but blanks", x.fault(1), bytes);
        }
        for (int bytes : new int[] {0, 1, 1561, 1579, 1580}) {
            CHECK.due("feed behind " + bytes, fed(bytes).feed(0, 0, 0, 0, 0), bytes + 20);
        }
    }

    private static void end() {
        CHECK.says("The tape has its first n bytes alone: true");
        MoonTender x = new MoonTender();
        CHECK.due("end(0) of nothing", x.end(0), true);
        Check.tape(x, "sea 4;level 7;");
        CHECK.due("all of them", x.end(14), true);
        CHECK.due("its first ones", x.end(6), true);
        CHECK.due("are a sea", x.sea(), 1);
        Check.tape(x, "sea 4;");
        CHECK.due("none of them", x.end(0), true);
        CHECK.due("are none", x.sea(), -1);
        CHECK.due("no others came in their place", x.fault(1), 0);
        CHECK.due("end(1600)", fed(1600).end(1600), true);
    }

    /** What stood behind the first n bytes is gone: each beginning of a text is read as if nothing had been there. */
    private static void endAlone() {
        CHECK.says("The tape has its first n bytes alone");
        String text = "sea 24;moon mmmmmm at 23 goes 11 temper 0;level 77;clause 1<2 and 22>1111;";
        for (int n = 0; n <= text.length(); n++) {
            MoonTender cut = CHECK.sea("sea 4;");
            Check.tape(cut, text);
            CHECK.due("end(" + n + ")", cut.end(n), true);
            MoonTender told = CHECK.sea("sea 4;");
            Check.tape(told, text.substring(0, n));
            CHECK.due("sea() of the first " + n, cut.sea(), told.sea());
            CHECK.due("fault of the first " + n, cut.fault(0), told.fault(0));
            CHECK.due("place of it", cut.fault(1), told.fault(1));
            boolean whole = n > 0 && text.charAt(n - 1) == ';';
            CHECK.due("whether it is one", cut.fault(0) == 0, whole);
            CHECK.due("how long it is", whole || cut.fault(1) <= n, true);
        }
    }

    private static void endRefused() {
        CHECK.says("false, refused (0), if it has not so many, or n is below 0");
        for (int n : new int[] {-1, LOW, 15, 20, 1600, HIGH}) {
            MoonTender x = ready();
            Check.tape(x, "sea 4;level 7;");
            CHECK.refused("end(" + n + ") of 14", x, 0, 0, y -> bit(y.end(n)));
            CHECK.due("the tape stays", x.sea(), 2);
        }
        MoonTender x = new MoonTender();
        CHECK.refused("end(1) of nothing", x, 0, 0, y -> bit(y.end(1)));
        CHECK.refused("end(-1) of nothing", x, 0, 0, y -> bit(y.end(-1)));
    }

    private static void sea() {
        CHECK.says("Without one it is HOUR 0, nothing is DUE or SEEN, no ACT can be undone; the seed stays");
        MoonTender x = CHECK.sea(SEA);
        x.seed(77);
        x.bid(0, 0, 20);
        x.hours(3);
        Check.see(x, 0, 20);
        CHECK.due("something is due", x.has(9) > 0, true);
        CHECK.due("something is seen", x.payers(0) >= 0, true);
        CHECK.due("acts", x.has(10), 2);
        CHECK.due("the same sea again", Check.sea(x, SEA), 11);
        CHECK.due("hour", x.has(7), 0);
        CHECK.due("due", x.has(9), 0);
        CHECK.due("seen", x.payers(0), -1);
        CHECK.due("acts", x.has(10), 0);
        CHECK.due("undo", x.undo(), false);
        CHECK.due("seed", x.has(11), 77);
        CHECK.due("bid", x.bids(0, 0, 0), 3);
        CHECK.due("purse", x.harbor(0, 1), 5);
        CHECK.due("place", x.moon(0, 0), 0);
        CHECK.due("fault", x.fault(0), 0);
        CHECK.due("the tape goes", x.end(1), false);
    }

    private static void seaRefused() {
        CHECK.says("NONE, refused (1), with a FAULT (all stays");
        String two = "sea 5;moon m at 0 goes 0 temper 0;harbor h at 0 purse 9 depth 9;level 3;sulk 3;pull 9;earns 9;";
        String[] texts = {"sea 5", two + "level", two + "moon m at 1 goes 1 temper 1;", two + "pays m h 1;", two + "level 100;",
            two + "clause [[[[[[[[all]]]]]]]];", two + "pull 8;", "", " ", two + "pays h m 20;#"};
        int[] codes = {1, 1, 2, 3, 4, 5, 6, 1, 1, 1};
        for (int i = 0; i < texts.length; i++) {
            String text = texts[i];
            MoonTender x = ready();
            CHECK.refused("sea of <" + text + ">", x, 1, -1, y -> Check.sea(y, text));
            CHECK.due("its fault", x.fault(0), codes[i]);
            CHECK.due("the tape goes", x.feed(0, 0, 0, 0, 0), 20);
        }
    }

    private static void seaWithoutStatement() {
        CHECK.says("one without a STATEMENT has FAULT 1 at its length");
        for (String text : new String[] {"", " ", "\n", " \n \n", " ".repeat(1599), "\n".repeat(1600)}) {
            MoonTender x = CHECK.sea("sea 4;");
            CHECK.due("sea of " + text.length() + " blanks", Check.sea(x, text), -1);
            CHECK.due("its fault", x.fault(0), 1);
            CHECK.due("its place", x.fault(1), text.length());
            CHECK.due("status(1)", x.status(1), 1);
            CHECK.due("the sea stays", x.has(0), 4);
        }
    }

    private static void fault() {
        CHECK.says("its FAULT (what 0; 0 without, and ahead of any), its place (1; NONE without). NONE for another what");
        MoonTender x = new MoonTender();
        CHECK.due("ahead of any", x.fault(0), 0);
        CHECK.due("its place", x.fault(1), -1);
        Check.sea(x, "sea 3;");
        CHECK.due("of the latest", x.fault(0), 4);
        CHECK.due("its place", x.fault(1), 4);
        Check.sea(x, "sea 4;");
        CHECK.due("without", x.fault(0), 0);
        CHECK.due("its place", x.fault(1), -1);
        x.sea();
        CHECK.due("of the latest", x.fault(0), 1);
        CHECK.due("its place", x.fault(1), 0);
        for (int what : new int[] {-1, 2, 3, LOW, HIGH}) {
            CHECK.due("fault(" + what + ")", x.fault(what), -1);
        }
    }

    private static void has() {
        CHECK.says("8 coins in purses, 9 coins DUE, 10 ACTS that can be undone, 11 the seed. NONE for others");
        answers("has", (x, a, b, c) -> x.has(a), -1, new int[][] {{-1, 0, 0}, {12, 0, 0}, {LOW, 0, 0}, {HIGH, 0, 0}});
        MoonTender x = CHECK.sea(SEA);
        CHECK.due("the first", x.has(0), 4);
        CHECK.due("the last", x.has(11), 1);
        CHECK.due("coins in purses", x.has(8), 45);
        StringBuilder all = new StringBuilder("sea 8;moon m at 0 goes 0 temper 0;moon n at 0 goes 0 temper 0;moon o at 0 goes 0 temper 0;");
        for (int h = 0; h < 8; h++) {
            all.append("harbor ").append((char) ('a' + h)).append(" at ").append(h).append(" purse 0 depth 0;");
        }
        MoonTender y = CHECK.sea(all.toString());
        CHECK.due("no coins", y.has(8) + y.has(9), 0);
        int[] image = new int[2 + 6 + 8 * 11];
        for (int h = 0; h < 8; h++) {
            for (int at : new int[] {0, 3, 6, 9}) {
                image[8 + 11 * h + at] = 39;
                image[8 + 11 * h + at + 1] = 15;
            }
        }
        CHECK.due("full purses, full dues", Check.on(y, Check.image(image)), true);
        CHECK.due("the most coins in purses", y.has(8), 8 * 9999);
        CHECK.due("the most coins due", y.has(9), 24 * 9999);
        CHECK.due("the most due to a moon", y.moon(2, 4), 8 * 9999);
        CHECK.due("the most due from a harbor", y.harbor(7, 4), 3 * 9999);
    }

    private static void letter() {
        CHECK.says("Letter k (0 .. 5) of the NAME of a MOON (kind 0), a HARBOR (1): 1 .. 26; 0 behind it; NONE when there is none such");
        answers("letter", MoonTender::letter, -1, new int[][] {{0, 0, -1}, {0, 0, 6}, {1, 0, -1}, {1, 0, 6}, {0, -1, 0}, {0, 2, 0},
            {1, -1, 0}, {1, 2, 0}, {-1, 0, 0}, {2, 0, 0}, {LOW, 0, 0}, {HIGH, 0, 0}, {0, LOW, 0}, {0, HIGH, 0}, {0, 0, LOW},
            {0, 0, HIGH}});
        answers("letter", MoonTender::letter, 13, new int[][] {{0, 0, 0}});
        answers("letter", MoonTender::letter, 14, new int[][] {{0, 1, 0}, {0, 1, 1}, {0, 1, 5}});
        answers("letter", MoonTender::letter, 8, new int[][] {{1, 0, 0}});
        answers("letter", MoonTender::letter, 9, new int[][] {{1, 1, 0}});
        answers("letter", MoonTender::letter, 0, new int[][] {{0, 0, 1}, {0, 0, 5}, {1, 0, 1}, {1, 1, 5}});
    }

    private static void moon() {
        CHECK.says("5 whether it SULKS. NONE when there is none such, or for others");
        answers("moon", (x, a, b, c) -> x.moon(a, b), -1, new int[][] {{-1, 0, 0}, {2, 0, 0}, {3, 0, 0}, {0, -1, 0}, {0, 6, 0},
            {LOW, 0, 0}, {HIGH, 0, 0}, {0, LOW, 0}, {0, HIGH, 0}, {1, 6, 0}, {1, -1, 0}});
        MoonTender x = CHECK.sea(SEA);
        int[][] want = {{0, 1, 4, 3, 0, 0}, {3, 5, 0, 1, 0, 0}};
        for (int m = 0; m < 2; m++) {
            for (int what = 0; what < 6; what++) {
                CHECK.due("moon(" + m + ", " + what + ")", x.moon(m, what), want[m][what]);
            }
        }
    }

    private static void harbor() {
        CHECK.says("9 its HELP. NONE when there is none such, or for others");
        answers("harbor", (x, a, b, c) -> x.harbor(a, b), -1, new int[][] {{-1, 0, 0}, {2, 0, 0}, {8, 0, 0}, {0, -1, 0}, {0, 10, 0},
            {LOW, 0, 0}, {HIGH, 0, 0}, {0, LOW, 0}, {0, HIGH, 0}, {1, 10, 0}, {1, -1, 0}});
        MoonTender x = CHECK.sea(SEA);
        int[][] want = {{0, 5, 0, 3, 0, 0, 7, 0, 1, 2}, {2, 40, 9, 1, 0, 0, 0, 7, 0, 0}};
        for (int h = 0; h < 2; h++) {
            for (int what = 0; what < 10; what++) {
                CHECK.due("harbor(" + h + ", " + what + ")", x.harbor(h, what), want[h][what]);
            }
        }
    }

    private static void bids() {
        CHECK.says("What a HARBOR bids a MOON (what 0), what is DUE (1). NONE when there are none such, or for others");
        answers("bids", MoonTender::bids, -1, new int[][] {{-1, 0, 0}, {2, 0, 0}, {0, -1, 0}, {0, 2, 0}, {0, 0, -1}, {0, 0, 2},
            {LOW, 0, 0}, {HIGH, 0, 0}, {0, LOW, 0}, {0, HIGH, 0}, {0, 0, LOW}, {0, 0, HIGH}, {-1, 3, 0}, {1, -3, 0}, {0, 3, 0}});
        MoonTender x = CHECK.sea(SEA);
        x.hours(3);
        int[][] want = {{3, 3, 0, 0}, {0, 0, 1, 0}};
        for (int h = 0; h < 2; h++) {
            for (int i = 0; i < 4; i++) {
                CHECK.due("bids(" + h + ", " + i / 2 + ", " + i % 2 + ")", x.bids(h, i / 2, i % 2), want[h][i]);
            }
        }
    }

    private static void pull() {
        CHECK.says("PULL of a MOON on a PLACE now; NOTHING when there are none such");
        answers("pull", (x, a, b, c) -> x.pull(a, b), NOTHING, new int[][] {{-1, 0, 0}, {2, 0, 0}, {3, 0, 0}, {0, -1, 0}, {0, 4, 0},
            {LOW, 0, 0}, {HIGH, 0, 0}, {0, LOW, 0}, {0, HIGH, 0}, {1, 4, 0}, {1, -1, 0}});
        MoonTender x = CHECK.sea(SEA);
        int[][] want = {{3, 0, -3, 0}, {0, -1, 0, 1}};
        for (int m = 0; m < 2; m++) {
            for (int p = 0; p < 4; p++) {
                CHECK.due("pull(" + m + ", " + p + ")", x.pull(m, p), want[m][p]);
            }
        }
        x.hours(1);
        CHECK.due("now is an hour later", x.pull(0, 1), 3);
        CHECK.due("a pull of -1 is a number", x.pull(1, 2), -1);
    }

    private static void height() {
        CHECK.says("HEIGHT of a PLACE AHEAD; NOTHING when there are none such");
        answers("height", (x, a, b, c) -> x.height(a, b), NOTHING, new int[][] {{-1, 0, 0}, {4, 0, 0}, {24, 0, 0}, {0, -1, 0},
            {0, 49, 0}, {LOW, 0, 0}, {HIGH, 0, 0}, {0, LOW, 0}, {0, HIGH, 0}, {3, 49, 0}, {-1, 48, 0}});
        MoonTender x = CHECK.sea(SEA.replace("pull paid*(1-far)", "pull paid*9*(1-far)").replace("sea 4;", "sea 4;level 0;"));
        int[] want = {27, -9, -27, 9};
        for (int p = 0; p < 4; p++) {
            CHECK.due("height(" + p + ", 0)", x.height(p, 0), want[p]);
        }
        CHECK.due("height(3, 48)", x.height(3, 48), 9);
        MoonTender low = CHECK.sea("sea 4;level 0;moon m at 0 goes 0 temper 0;pull far-1;");
        CHECK.due("a height of -1 is a number", low.height(0, 0), -1);
    }

    private static void ahead() {
        CHECK.says("Of a HARBOR AHEAD, at that HOUR's beginning: 0 its purse, 1 whether it is STRANDED, 2 all that is DUE from it");
        answers("ahead", MoonTender::ahead, -1, new int[][] {{-1, 0, 0}, {2, 0, 0}, {0, -1, 0}, {0, 49, 0}, {0, 0, -1}, {0, 0, 3},
            {LOW, 0, 0}, {HIGH, 0, 0}, {0, LOW, 0}, {0, HIGH, 0}, {0, 0, LOW}, {0, 0, HIGH}, {0, 48, 3}, {0, 49, 2}, {1, 48, -1}});
        MoonTender x = CHECK.sea(SEA);
        CHECK.due("purse of now", x.ahead(0, 0, 0), 5);
        CHECK.due("purse an hour later", x.ahead(0, 1, 0), 3);
        CHECK.due("purse at the last", x.ahead(1, 48, 0), 40);
        CHECK.due("due of now", x.ahead(0, 0, 2), 0);
        CHECK.due("stranded at the last", x.ahead(1, 48, 1), 0);
    }

    private static void broken() {
        CHECK.says("0 the HOUR AHEAD, 1 the HARBOR, 2 the CLAUSE. NONE when none is, or for others");
        answers("broken", (x, a, b, c) -> x.broken(a), -1, new int[][] {{-1, 0, 0}, {3, 0, 0}, {LOW, 0, 0}, {HIGH, 0, 0}});
        MoonTender x = CHECK.sea("sea 4;harbor h at 0 purse 0 depth 0;harbor i at 1 purse 0 depth 0;clause all;clause hour<7 or place<1;");
        CHECK.due("broken(0)", x.broken(0), 7);
        CHECK.due("broken(1)", x.broken(1), 1);
        CHECK.due("broken(2)", x.broken(2), 1);
        for (String text : new String[] {"sea 4;", "sea 4;clause not all;", "sea 4;harbor h at 0 purse 0 depth 0;",
            "sea 4;harbor h at 0 purse 0 depth 0;clause all;"}) {
            MoonTender none = CHECK.sea(text);
            for (int what = 0; what <= 2; what++) {
                CHECK.due("broken(" + what + ") of <" + text + ">", none.broken(what), -1);
            }
        }
    }

    private static void stranded() {
        CHECK.says("the first HOUR AHEAD from that one on in which somebody is (1). NONE when there is none such, or for others");
        answers("stranded", (x, a, b, c) -> x.stranded(a, b), -1, new int[][] {{-1, 0, 0}, {49, 0, 0}, {-1, 1, 0}, {49, 1, 0},
            {0, -1, 0}, {0, 2, 0}, {LOW, 0, 0}, {HIGH, 1, 0}, {0, LOW, 0}, {0, HIGH, 0}, {48, 2, 0}, {48, -1, 0}});
        String hour48 = "sea 4;moon m at 0 goes 0 temper 0;harbor h at 0 purse 0 depth 20;pull (far-1)*(hour/48);";
        MoonTender x = CHECK.sea(hour48);
        CHECK.due("in the 48th", x.stranded(0, 1), 48);
        CHECK.due("from the 48th on", x.stranded(48, 1), 48);
        CHECK.due("how many in the 47th", x.stranded(47, 0), 0);
        CHECK.due("how many in the 48th", x.stranded(48, 0), 1);
        CHECK.due("in the 49th", CHECK.sea(hour48.replace("48", "49")).stranded(0, 1), -1);
        MoonTender now = CHECK.sea("sea 8;level 7;harbor a at 0 purse 0 depth 8;harbor b at 7 purse 0 depth 99;");
        CHECK.due("all of them now", now.stranded(0, 0), 2);
        CHECK.due("now", now.stranded(0, 1), 0);
        CHECK.due("without a harbor", CHECK.sea("sea 4;").stranded(0, 0), 0);
        CHECK.due("without a harbor, the first hour", CHECK.sea("sea 4;").stranded(0, 1), -1);
    }

    private static void bid() {
        CHECK.says("A HARBOR bids a MOON n (0 .. 20): what it bid");
        MoonTender x = CHECK.sea(SEA);
        CHECK.due("the most", x.bid(0, 0, 20), 3);
        CHECK.due("the least", x.bid(0, 0, 0), 20);
        CHECK.due("the same again", x.bid(0, 0, 0), 0);
        CHECK.due("the last pair", x.bid(1, 1, 20), 1);
        CHECK.due("bids", x.bids(1, 1, 0), 20);
        CHECK.due("each is an act", x.has(10), 4);
        CHECK.due("nothing is refused", x.status(2), 0);
    }

    private static void bidRefused() {
        CHECK.says("what it bid; NONE, refused (2), when that can't be");
        int[][] rows = {{0, 0, -1}, {0, 0, 21}, {-1, 0, 1}, {2, 0, 1}, {0, -1, 1}, {0, 2, 1}, {0, 3, 1}, {0, 0, LOW}, {0, 0, HIGH},
            {LOW, 0, 1}, {HIGH, 0, 1}, {0, LOW, 1}, {0, HIGH, 1}};
        for (int[] n : rows) {
            CHECK.refused("bid(" + n[0] + ", " + n[1] + ", " + n[2] + ")", ready(), 2, -1, x -> x.bid(n[0], n[1], n[2]));
        }
        MoonTender moons = CHECK.sea("sea 4;moon m at 0 goes 0 temper 0;");
        CHECK.refused("bid without harbors", moons, 2, -1, x -> x.bid(0, 0, 0));
        MoonTender harbors = CHECK.sea("sea 4;harbor h at 0 purse 0 depth 0;");
        CHECK.refused("bid without moons", harbors, 2, -1, x -> x.bid(0, 0, 0));
    }

    private static void give() {
        CHECK.says("n coins (1 and more) are given: true");
        MoonTender x = CHECK.sea(SEA);
        CHECK.due("the least", x.give(1, 0, 1), true);
        CHECK.due("purses", 100 * x.harbor(0, 1) + x.harbor(1, 1), 639);
        CHECK.due("all that it has", x.give(1, 0, 39), true);
        CHECK.due("purses", 100 * x.harbor(0, 1) + x.harbor(1, 1), 4500);
        CHECK.due("all back", x.give(0, 1, 45), true);
        CHECK.due("each is an act", x.has(10), 3);
        CHECK.due("coins", x.has(8), 45);
        Check.withPurse(x, 0, 9998);
        CHECK.due("up to 9999", x.give(1, 0, 1), true);
        CHECK.due("purse", x.harbor(0, 1), 9999);
        Check.withPurse(x, 1, 0);
        CHECK.due("as many as can be", x.give(0, 1, 9999), true);
        CHECK.due("purse", x.harbor(1, 1), 9999);
        CHECK.due("nothing is refused", x.status(2), 0);
    }

    private static void giveRefused() {
        CHECK.says("false, refused (2), when there are none such, it is one HARBOR, its purse has not so many, or the other one's "
                + "would have more than 9999");
        MoonTender sample = ready();
        int purse = sample.harbor(1, 1);
        CHECK.due("a purse of its own", purse, 40);
        int[][] rows = {{1, 0, 0}, {1, 0, -1}, {1, 0, 41}, {1, 1, 1}, {0, 0, 1}, {-1, 0, 1}, {2, 0, 1}, {1, -1, 1}, {1, 2, 1},
            {1, 0, LOW}, {1, 0, HIGH}, {LOW, 0, 1}, {HIGH, 0, 1}, {1, LOW, 1}, {1, HIGH, 1}, {-1, -1, 1}, {2, 2, 1}};
        for (int[] n : rows) {
            CHECK.refused("give(" + n[0] + ", " + n[1] + ", " + n[2] + ")", ready(), 2, 0, x -> bit(x.give(n[0], n[1], n[2])));
        }
        int[][] full = {{9999, 1}, {9998, 2}, {9960, 40}, {9990, 10}};
        for (int[] row : full) {
            MoonTender x = CHECK.sea(SEA);
            Check.withPurse(x, 0, row[0]);
            CHECK.refused("give of " + row[1] + " to " + row[0], x, 2, 0, y -> bit(y.give(1, 0, row[1])));
        }
        MoonTender empty = CHECK.sea(SEA);
        Check.withPurse(empty, 1, 0);
        CHECK.refused("give of an empty purse", empty, 2, 0, x -> bit(x.give(1, 0, 1)));
    }

    private static void soothe() {
        CHECK.says("A MOON's temper is n (0 .. 9): what it was");
        MoonTender x = CHECK.sea(SEA);
        CHECK.due("the most", x.soothe(0, 9), 4);
        CHECK.due("the least", x.soothe(0, 0), 9);
        CHECK.due("the same again", x.soothe(0, 0), 0);
        CHECK.due("the last moon", x.soothe(1, 9), 0);
        CHECK.due("temper", x.moon(1, 2), 9);
        CHECK.due("each is an act", x.has(10), 4);
    }

    private static void sootheRefused() {
        CHECK.says("what it was; NONE, refused (2), when that can't be");
        int[][] rows = {{0, -1}, {0, 10}, {-1, 1}, {2, 1}, {3, 1}, {0, LOW}, {0, HIGH}, {LOW, 1}, {HIGH, 1}};
        for (int[] n : rows) {
            CHECK.refused("soothe(" + n[0] + ", " + n[1] + ")", ready(), 2, -1, x -> x.soothe(n[0], n[1]));
        }
        CHECK.refused("soothe without moons", CHECK.sea("sea 4;"), 2, -1, x -> x.soothe(0, 0));
    }

    private static void hours() {
        CHECK.says("n HOURS (1 .. 200) go by: the HOUR then");
        MoonTender x = CHECK.sea(SEA);
        CHECK.due("the least", x.hours(1), 1);
        CHECK.due("the most", x.hours(200), 201);
        CHECK.due("each is an act", x.has(10), 2);
        x.undo();
        CHECK.due("undone", x.has(7), 1);
        CHECK.due("the last but one", x.hours(199), 200);
        Check.withHour(x, 9799);
        CHECK.due("up to 9999", x.hours(200), 9999);
        MoonTender empty = CHECK.sea("sea 4;");
        CHECK.due("of an empty sea", empty.hours(200), 200);
    }

    private static void hoursRefused() {
        CHECK.says("NONE, refused (3), when n can't be, beyond 9999, or without a sea");
        for (int n : new int[] {0, -1, 201, 9999, LOW, HIGH}) {
            CHECK.refused("hours(" + n + ")", ready(), 3, -1, x -> x.hours(n));
        }
        int[][] rows = {{9999, 1}, {9998, 2}, {9800, 200}, {9900, 100}, {9999, 200}};
        for (int[] row : rows) {
            MoonTender x = ready();
            Check.withHour(x, row[0]);
            CHECK.refused("hours(" + row[1] + ") at " + row[0], x, 3, -1, y -> y.hours(row[1]));
            if (row[1] > 1 && row[0] + row[1] == 10000) {
                CHECK.due("one less", x.hours(row[1] - 1), 9999);
            }
        }
        CHECK.refused("hours without a sea", new MoonTender(), 3, -1, x -> x.hours(1));
    }

    private static void storms() {
        CHECK.says("n HOURS (1 .. 100) with STORMS, one ACT: the HOUR then");
        MoonTender x = CHECK.sea(SEA);
        CHECK.due("the least", x.storms(1), 1);
        CHECK.due("the most", x.storms(100), 101);
        CHECK.due("each is one act", x.has(10), 2);
        x.undo();
        CHECK.due("undone", x.has(7), 1);
        CHECK.due("the last but one", x.storms(99), 100);
        Check.withHour(x, 9899);
        CHECK.due("up to 9999", x.storms(100), 9999);
    }

    private static void stormsRefused() {
        CHECK.says("NONE, refused (3), likewise");
        for (int n : new int[] {0, -1, 101, 200, 9999, LOW, HIGH}) {
            CHECK.refused("storms(" + n + ")", ready(), 3, -1, x -> x.storms(n));
        }
        int[][] rows = {{9999, 1}, {9998, 2}, {9900, 100}, {9999, 100}};
        for (int[] row : rows) {
            MoonTender x = ready();
            Check.withHour(x, row[0]);
            CHECK.refused("storms(" + row[1] + ") at " + row[0], x, 3, -1, y -> y.storms(row[1]));
            if (row[1] > 1 && row[0] + row[1] == 10000) {
                CHECK.due("one less", x.storms(row[1] - 1), 9999);
            }
        }
        CHECK.refused("storms without a sea", new MoonTender(), 3, -1, x -> x.storms(1));
    }

    private static void undo() {
        CHECK.says("all is as it was ahead of it (but the seed): true");
        MoonTender x = ready();
        String before = Check.everything(x);
        x.storms(7);
        CHECK.due("the seed is another one", x.has(11) == 1, false);
        int seed = x.has(11);
        CHECK.due("undo of storms", x.undo(), true);
        CHECK.due("the seed stays", x.has(11), seed);
        x.seed(1);
        CHECK.same("undo of storms", Check.everything(x), before);
        CHECK.due("undo of a bid", x.undo(), true);
        CHECK.due("undo of hours", x.undo(), true);
        CHECK.due("no more", x.undo(), false);
    }

    private static void undoRefused() {
        CHECK.says("false, refused (4), when none can be");
        CHECK.refused("undo in a new sea", CHECK.sea(SEA), 4, 0, x -> bit(x.undo()));
        CHECK.refused("undo without a sea", new MoonTender(), 4, 0, x -> bit(x.undo()));
        MoonTender x = CHECK.sea(SEA);
        x.bid(0, 0, 21);
        x.hours(0);
        x.seed(7);
        CHECK.refused("undo of refused acts and a seed", x, 4, 0, y -> bit(y.undo()));
        x.hours(1);
        x.undo();
        CHECK.refused("undo of what is undone", x, 4, 0, y -> bit(y.undo()));
        MoonTender image = CHECK.sea(SEA);
        image.hours(1);
        Check.withHour(image, 5);
        CHECK.refused("undo behind an image", image, 4, 0, y -> bit(y.undo()));
        MoonTender again = CHECK.sea(SEA);
        again.hours(1);
        Check.sea(again, SEA);
        CHECK.refused("undo behind another sea", again, 4, 0, y -> bit(y.undo()));
    }

    private static void seed() {
        CHECK.says("The seed: true");
        MoonTender x = CHECK.sea(SEA);
        for (int n : new int[] {0, 1, HIGH - 1, HIGH}) {
            CHECK.due("seed(" + n + ")", x.seed(n), true);
            CHECK.due("has(11)", x.has(11), n);
        }
        CHECK.due("it is no act", x.has(10), 0);
        MoonTender none = new MoonTender();
        CHECK.due("without a sea", none.seed(0), true);
        CHECK.due("has(11)", none.has(11), 0);
    }

    private static void seedRefused() {
        CHECK.says("false, refused (5), when it is below 0");
        for (int n : new int[] {-1, -2, LOW}) {
            CHECK.refused("seed(" + n + ")", ready(), 5, 0, x -> bit(x.seed(n)));
        }
    }

    private static void wished() {
        CHECK.says("NONE when no bids do, something can't be, or for others");
        answers("wished", MoonTender::wished, -1, new int[][] {{-1, 20, -1}, {2, 20, -1}, {0, -1000, -1}, {0, 1000, -1}, {0, 20, -2},
            {0, 20, 2}, {0, 20, 3}, {LOW, 20, -1}, {HIGH, 20, -1}, {0, LOW, -1}, {0, HIGH, -1}, {0, 20, LOW}, {0, 20, HIGH},
            {0, 999, -1}, {0, 999, 0}, {0, -1000, 0}});
        answers("wished", MoonTender::wished, 0, new int[][] {{0, -999, -1}, {0, -999, 0}, {0, -999, 1}, {1, -999, 1}});
        MoonTender x = CHECK.sea("sea 4;level 99;moon m at 0 goes 0 temper 0;harbor h at 0 purse 0 depth 0;pull paid*9*(1-far);");
        CHECK.due("some height", x.wished(0, 99 + 90, -1), 10);
        CHECK.due("no act", x.has(10), 0);
    }

    private static void rest() {
        CHECK.says("what HARBOR h bids MOON m then (k: 10 h and m). NONE for others, or without a sea");
        answers("rest", (x, a, b, c) -> x.rest(a), -1, new int[][] {{-2, 0, 0}, {2, 0, 0}, {3, 0, 0}, {9, 0, 0}, {12, 0, 0},
            {19, 0, 0}, {20, 0, 0}, {80, 0, 0}, {100, 0, 0}, {-10, 0, 0}, {-11, 0, 0}, {LOW, 0, 0}, {HIGH, 0, 0}});
        MoonTender x = CHECK.sea(SEA);
        for (int k : new int[] {-1, 0, 1, 10, 11}) {
            CHECK.due("rest(" + k + ")", x.rest(k) >= 0, true);
        }
        StringBuilder all = new StringBuilder("sea 8;moon m at 0 goes 0 temper 0;moon n at 0 goes 0 temper 0;moon o at 7 goes 0 temper 0;");
        for (int h = 0; h < 8; h++) {
            all.append("harbor ").append((char) ('a' + h)).append(" at ").append(h).append(" purse 0 depth 0;");
        }
        MoonTender y = CHECK.sea(all + "pull paid*9*(1-min(1,far));");
        CHECK.due("the last harbor, the last moon", y.rest(72), 4);
        CHECK.due("behind the last moon", y.rest(73), -1);
        CHECK.due("behind the last harbor", y.rest(80), -1);
        CHECK.due("the first ones", y.rest(0), 4);
        CHECK.due("the bids stay", y.bids(7, 2, 0), 0);
        CHECK.due("without harbors", CHECK.sea("sea 4;moon m at 0 goes 0 temper 0;").rest(0), -1);
        CHECK.due("without moons", CHECK.sea("sea 4;harbor h at 0 purse 0 depth 0;").rest(0), -1);
        CHECK.due("without a sea", new MoonTender().rest(-1), -1);
    }

    private static void shipArguments() {
        CHECK.says("by a draught (0 .. 99): how many HOURS (0 when it is one and it floats). NONE when it can't be, or something can't be");
        int[][] none = {{-1, 0, 5}, {2, 0, 5}, {0, -1, 5}, {0, 2, 5}, {0, 1, -1}, {0, 1, 100}, {0, 0, -1}, {0, 0, 100}, {LOW, 0, 5},
            {HIGH, 0, 5}, {0, LOW, 5}, {0, HIGH, 5}, {0, 1, LOW}, {0, 1, HIGH}, {-1, -1, 5}, {2, 2, 5}};
        answers("across", MoonTender::across, -1, none);
        answers("latest", MoonTender::latest, -1, none);
        MoonTender x = CHECK.sea("sea 4;level 99;harbor h at 0 purse 0 depth 0;harbor i at 2 purse 0 depth 0;");
        CHECK.due("the greatest draught", x.across(0, 1, 99), 2);
        CHECK.due("the least draught", x.across(1, 0, 0), 2);
        CHECK.due("it is one", x.across(1, 1, 99), 0);
        CHECK.due("the greatest draught, latest", x.latest(0, 1, 99), 46);
        CHECK.due("the least draught, latest", x.latest(1, 0, 0), 46);
        CHECK.due("it is one, latest", x.latest(1, 1, 99), 48);
        MoonTender high = CHECK.sea("sea 4;level 99;moon m at 0 goes 0 temper 0;harbor h at 0 purse 0 depth 0;pull 9*(1-far);");
        CHECK.due("a height above 100", high.height(0, 0), 108);
        CHECK.due("by a draught of 99", high.across(0, 0, 99), 0);
        CHECK.due("by none of 100", high.across(0, 0, 100), -1);
        CHECK.due("nor latest", high.latest(0, 0, 100), -1);
    }

    private static void meet() {
        CHECK.says("ALL MEET: the HOUR (what 0), the PLACE (1)");
        answers("meet", (x, a, b, c) -> x.meet(a), -1, new int[][] {{-1, 0, 0}, {2, 0, 0}, {LOW, 0, 0}, {HIGH, 0, 0}});
        MoonTender x = CHECK.sea("sea 4;moon m at 3 goes 1 temper 0;");
        CHECK.due("meet(0)", x.meet(0), 0);
        CHECK.due("meet(1)", x.meet(1), 3);
        CHECK.due("meet(2)", x.meet(2), -1);
        CHECK.due("no moons: meet(0)", CHECK.sea("sea 4;").meet(0), -1);
        CHECK.due("no moons: meet(1)", CHECK.sea("sea 4;").meet(1), -1);
    }

    private static void see() {
        CHECK.says("1 to 20 rows of three bytes: PLACE, HEIGHT and 1000 (two bytes, the higher first): how many rows");
        for (int rows : new int[] {1, 2, 19, 20}) {
            MoonTender x = CHECK.sea(SEA);
            CHECK.due(rows + " rows", Check.see(x, new int[2 * rows]), rows);
            CHECK.due("the tape goes", x.feed(0, 0, 0, 0, 0), 20);
            CHECK.due("nobody paid for it", x.payers(0), 0);
            CHECK.due("nothing is refused", x.status(5), 0);
        }
        MoonTender x = CHECK.sea("sea 4;level 24;");
        Check.tape(x, 3, 4, 0);
        CHECK.due("a height of 24: 1024", x.see(), 1);
        CHECK.due("just so", x.payers(0), 1);
        Check.tape(x, 3, 3, 255);
        CHECK.due("a height of 23: 1023", x.see(), 1);
        CHECK.due("not so", x.payers(0), 0);
        Check.tape(x, 0, 0, 0);
        CHECK.due("a height of -1000", x.see(), 1);
        CHECK.due("not so", x.payers(0), 0);
        Check.tape(x, 0, 255, 255);
        CHECK.due("a height of 64535", x.see(), 1);
        CHECK.due("not so", x.payers(0), 0);
        Check.tape(x, 0, 4, 0);
        x.see();
        CHECK.due("what is seen last counts", x.payers(0), 1);
    }

    private static void seeRefused() {
        CHECK.says("how many rows; NONE, refused (5), all staying, when it is none such");
        int[][] tapes = {{}, {0}, {0, 4}, {0, 4, 0, 1}, {0, 4, 0, 1, 4}, new int[59], new int[61], new int[62], new int[63], new int[600],
            {4, 4, 0}, {24, 4, 0}, {128, 4, 0}, {255, 4, 0}, {0, 4, 0, 4, 4, 0}, {4, 4, 0, 0, 4, 0}};
        for (int[] bytes : tapes) {
            MoonTender x = ready();
            CHECK.refused("see of " + bytes.length + " bytes", x, 5, -1, y -> {
                Check.tape(y, bytes);
                return y.see();
            });
            CHECK.due("the tape goes", x.feed(0, 0, 0, 0, 0), 20);
        }
        MoonTender nothing = CHECK.sea(SEA);
        CHECK.refused("see of a place too far", nothing, 5, -1, x -> Check.see(x, 4, 20));
        CHECK.due("nothing is seen still", nothing.payers(0), -1);
        CHECK.due("the last place can be", Check.see(nothing, 3, 20), 1);
        for (int places = 4; places <= 24; places++) {
            MoonTender wide = CHECK.sea("sea " + places + ";");
            CHECK.due("the last of " + places, Check.see(wide, places - 1, 20), 1);
            CHECK.due("one more than that", Check.see(wide, places, 20), -1);
        }
    }

    private static void payers() {
        CHECK.says("NONE when nothing is SEEN, or for others");
        answers("payers", (x, a, b, c) -> x.payers(a), -1, new int[][] {{-1, 0, 0}, {3, 0, 0}, {LOW, 0, 0}, {HIGH, 0, 0}});
        MoonTender x = CHECK.sea(SEA);
        for (int what = 0; what <= 2; what++) {
            CHECK.due("nothing is seen: payers(" + what + ")", x.payers(what), -1);
        }
        Check.see(x, 0, 23);
        CHECK.due("sets", x.payers(0), 2);
        CHECK.due("in all", x.payers(1), 1);
        CHECK.due("in some", x.payers(2), 3);
    }

    private static void image() {
        CHECK.says("AN IMAGE is written: how many bytes");
        MoonTender x = CHECK.sea(SEA);
        String before = Check.all(x);
        CHECK.due("image", x.image(), 23);
        CHECK.same("image", Check.all(x), before);
        CHECK.due("of an empty sea", CHECK.sea("sea 4;").image(), 3);
        CHECK.due("without a sea", new MoonTender().image(), 3);
    }

    private static void octet() {
        CHECK.says("Byte k of the latest image(); NONE when there is none such");
        MoonTender x = CHECK.sea(SEA);
        for (int k : new int[] {-1, 0, 1, LOW, HIGH}) {
            CHECK.due("ahead of an image: octet(" + k + ")", x.octet(k), -1);
        }
        x.image();
        for (int k : new int[] {-1, 23, 24, 97, LOW, HIGH}) {
            CHECK.due("octet(" + k + ")", x.octet(k), -1);
        }
        CHECK.due("the first", x.octet(0), 0);
        CHECK.due("the last", x.octet(22) >= 0, true);
        x.hours(200);
        x.hours(100);
        CHECK.due("it is the latest image's", x.octet(0), 0);
        x.image();
        CHECK.due("of another one then", x.octet(0), 1);
        CHECK.due("300 is 256 and 44", x.octet(1), 44);
        Check.sea(x, "sea 4;");
        CHECK.due("the latest image is longer than this sea's", x.octet(22) >= 0, true);
        x.image();
        CHECK.due("a shorter one: its last", x.octet(2), 217);
        CHECK.due("a shorter one: none behind it", x.octet(3), -1);
    }

    private static void on() {
        CHECK.says("true, all is as it tells, no ACT can be undone");
        MoonTender x = CHECK.sea(SEA);
        x.hours(3);
        CHECK.due("an act", x.has(10), 1);
        int[] most = Check.image(39, 15, 3, 9, 3, 9, 39, 15, 20, 39, 15, 20, 39, 15, 39, 15, 20, 39, 15, 20, 39, 15);
        CHECK.due("the most", Check.on(x, most), true);
        CHECK.due("no act", x.has(10), 0);
        CHECK.due("hour", x.has(7), 9999);
        CHECK.due("coins", x.has(8), 2 * 9999);
        CHECK.due("due", x.has(9), 4 * 9999);
        for (int m = 0; m < 2; m++) {
            CHECK.due("place", x.moon(m, 0), 3);
            CHECK.due("temper", x.moon(m, 2), 9);
            CHECK.due("bids", x.moon(m, 3), 40);
        }
        CHECK.due("the tape goes", x.feed(0, 0, 0, 0, 0), 20);
        CHECK.due("the least", Check.on(x, Check.image(new int[22])), true);
        CHECK.due("hour", x.has(7), 0);
        CHECK.due("coins, due", x.has(8) + x.has(9), 0);
        CHECK.due("nothing is refused", x.status(5), 0);
    }

    private static void onRefused() {
        CHECK.says("false, refused (5), all staying, if it is none such (HOURS, purses, DUES 9999 at most; PLACES that there are; "
                + "tempers 9, bids 20 at most), or there is no sea");
        int[] first = Check.picture(CHECK.sea(SEA));
        int[][] changes = {{0, 39, 16}, {0, 40, 0}, {0, 255, 255}, {2, 4}, {2, 255}, {4, 4}, {4, 24}, {3, 10}, {3, 255}, {5, 10},
            {6, 39, 16}, {6, 255, 255}, {14, 39, 16}, {14, 40, 0}, {8, 21}, {8, 255}, {11, 21}, {16, 21}, {19, 21}, {9, 39, 16},
            {12, 39, 16}, {17, 39, 16}, {20, 39, 16}, {20, 255, 255}};
        for (int[] change : changes) {
            int[] bytes = first.clone();
            System.arraycopy(change, 1, bytes, change[0], change.length - 1);
            refusedImage("byte " + change[0] + " is " + change[1], Check.image(bytes));
            bytes[change[0]] = 0;
            CHECK.due("byte " + change[0] + " is 0", Check.on(ready(), Check.image(bytes)), true);
        }
        int[] whole = Check.image(first);
        for (int size : new int[] {0, 1, 2, 3, 21, 22, 24, 46, 1600}) {
            refusedImage(size + " bytes", java.util.Arrays.copyOf(whole, size));
            if (size > 1) {
                refusedImage(size + " bytes with their last one", Check.image(java.util.Arrays.copyOf(first, size - 1)));
            }
        }
        for (int k = 0; k < whole.length; k++) {
            int[] bytes = whole.clone();
            bytes[k] ^= 1;
            refusedImage("byte " + k + " is another one", bytes);
        }
        CHECK.due("unchanged", Check.on(ready(), whole), true);
        MoonTender none = new MoonTender();
        CHECK.refused("on without a sea", none, 5, 0, x -> bit(Check.on(x, Check.image(0, 0))));
    }

    private static void refusedImage(String what, int[] bytes) {
        MoonTender x = ready();
        CHECK.refused("on: " + what, x, 5, 0, y -> bit(Check.on(y, bytes)));
        CHECK.due("the tape goes", x.feed(0, 0, 0, 0, 0), 20);
    }

    private static void status() {
        CHECK.says("0 feed(), end(); 1 sea(); 2 bid(), give(), soothe(); 3 hours(), storms(); 4 undo(); 5 seed(), see(), on(). NONE for others");
        MoonTender x = new MoonTender();
        for (int what = 0; what < 6; what++) {
            CHECK.due("status(" + what + ")", x.status(what), 0);
        }
        for (int what : new int[] {-1, 6, 7, LOW, HIGH}) {
            CHECK.due("status(" + what + ")", x.status(what), -1);
        }
        for (int i = 1; i <= 60; i++) {
            x.undo();
            x.bid(0, 0, 0);
        }
        CHECK.due("often refused", x.status(4), 60);
        CHECK.due("often refused", x.status(2), 60);
        CHECK.due("the others", x.status(0) + x.status(1) + x.status(3) + x.status(5), 0);
        Check.sea(x, SEA);
        CHECK.due("they stay with a sea", x.status(4), 60);
        Check.withHour(x, 7);
        CHECK.due("they stay with an image", x.status(4), 60);
        x.hours(1);
        x.undo();
        CHECK.due("they stay with what is undone", x.status(4), 60);
    }

    /** The tape goes with sea(), see() and on() alone. */
    private static void tapeStays() {
        CHECK.says("The tape (it goes) is THE SEA");
        MoonTender x = CHECK.sea(SEA);
        Check.tape(x, "sea 5;");
        Check.everything(x);
        x.bid(0, 0, 1);
        x.bid(0, 0, 21);
        x.give(1, 0, 1);
        x.soothe(0, 1);
        x.hours(1);
        x.storms(1);
        x.undo();
        x.seed(7);
        x.image();
        x.end(7);
        CHECK.due("it stays with all else", x.sea(), 1);
        CHECK.due("and is the sea then", x.has(0), 5);
        CHECK.due("and goes", x.end(1), false);
    }
}
