/**
 * The document read from Promise 1 to its end, no word left out: what each promise says, and answers, most of them
 * reckoned by hand (about Example).
 */
public final class PromisesTest {
    private static final Check CHECK = new Check();
    private static final int NONE = -1;
    private static final int NOTHING = -1000000000;
    private static final int[] WRONG = {-1, -2, Integer.MIN_VALUE, Integer.MAX_VALUE, 1000};
    /** Four bytes in one int. */
    private static final int ABCD = 0x61626364;

    /** A call with an argument that can't be. */
    private interface Asked {
        int of(int argument);
    }

    public static void main(String[] args) {
        CHECK.readsFrom("## Promise 1:");
        newObject();
        feed();
        end();
        sea();
        fault();
        has();
        letter();
        moon();
        harbor();
        bids();
        pullAndHeight();
        ahead();
        broken();
        stranded();
        bid();
        give();
        soothe();
        hours();
        storms();
        undo();
        seed();
        wished();
        rest();
        across();
        latest();
        meet();
        see();
        payers();
        image();
        octet();
        on();
        status();
        notPromised();
        CHECK.readsUpTo("");
        CHECK.finish("PromisesTest");
    }

    private static MoonTender example() {
        return CHECK.sea(Example.SEA);
    }

    /** For all these and each of the arguments given, the answer is the same. */
    private static void always(String call, int want, Asked asked, int... more) {
        for (int argument : WRONG) {
            CHECK.due(call + " of " + argument, asked.of(argument), want);
        }
        for (int argument : more) {
            CHECK.due(call + " of " + argument, asked.of(argument), want);
        }
    }

    private static int bit(boolean answer) {
        return answer ? 1 : 0;
    }

    private static void newObject() {
        CHECK.reads("## Promise 1: A new object `MoonTender()`: No sea, no MOONS; the seed is 1.");
        MoonTender x = new MoonTender();
        CHECK.due("places", x.has(0), 0);
        CHECK.due("moons", x.has(1), 0);
        CHECK.due("seed", x.has(11), 1);
        CHECK.due("no sea: no hour goes by", x.hours(1), NONE);
        CHECK.due("no moon", x.moon(0, 0), NONE);
        MoonTender y = new MoonTender();
        y.seed(5);
        CHECK.due("one object does not change another", x.has(11), 1);
    }

    private static void feed() {
        CHECK.reads("## Promise 2: feed `int feed(int a, int b, int c, int d, int e)`: Twenty bytes come behind those on the"
                + " tape, of each number the highest first: how many there are;");
        MoonTender x = new MoonTender();
        String text = "sea 4;level 7;sulk 9;";
        CHECK.due("the first ones", x.feed(0x73656120, 0x343b6c65, 0x76656c20, 0x373b7375, 0x6c6b2039), 20);
        CHECK.due("behind them", x.feed(0x3b0a0a0a, 0x0a0a0a0a, 0x20202020, 0x20202020, 0x20202020), 40);
        CHECK.due("they are " + text, x.sea(), 3);
        CHECK.due("level", x.has(5), 7);
        CHECK.due("sulk", x.has(6), 9);
        CHECK.reads("NONE, refused (0), if there would be more than 1600.");
        for (int n = 20; n <= 1600; n += 20) {
            CHECK.due("feed", x.feed(ABCD, ABCD, ABCD, ABCD, ABCD), n);
        }
        CHECK.refused("feed, the 81st", x, 0, NONE, y -> y.feed(ABCD, ABCD, ABCD, ABCD, ABCD));
        CHECK.due("1600 are there still", x.end(1600), true);
        CHECK.due("with 1581", x.end(1581), true);
        CHECK.refused("feed, behind 1581", x, 0, NONE, y -> y.feed(0, 0, 0, 0, 0));
        CHECK.due("with 1580", x.end(1580), true);
        CHECK.due("feed, behind 1580", x.feed(0, 0, 0, 0, 0), 1600);
    }

    private static void end() {
        CHECK.reads("## Promise 3: end `boolean end(int n)`: The tape has its first n bytes alone: true;");
        MoonTender x = new MoonTender();
        x.feed(0x73656120, 0x343b6c65, 0x76656c20, 0x373b7375, 0x6c6b2039);
        CHECK.due("all of them", x.end(20), true);
        CHECK.due("sea 4;", x.end(6), true);
        CHECK.due("one statement", x.sea(), 1);
        CHECK.due("none of none", x.end(0), true);
        CHECK.due("an end moves feed back", x.feed(ABCD, 0, 0, 0, 0) == 20 && x.end(4)
                && x.feed(0, 0, 0, 0, 0) == 24, true);
        CHECK.reads("false, refused (0), if it has not so many, or n is below 0.");
        CHECK.refused("25 of 24", x, 0, 0, y -> bit(y.end(25)));
        CHECK.refused("-1", x, 0, 0, y -> bit(y.end(-1)));
        CHECK.refused("the least", x, 0, 0, y -> bit(y.end(Integer.MIN_VALUE)));
        CHECK.refused("the most", x, 0, 0, y -> bit(y.end(Integer.MAX_VALUE)));
        CHECK.due("24 are there still", x.end(24), true);
    }

    private static void sea() {
        CHECK.reads("## Promise 4: sea `int sea()`: The tape (it goes) is THE SEA: how many STATEMENTS;");
        MoonTender x = new MoonTender();
        CHECK.due("statements", Check.sea(x, Example.SEA), Example.STATEMENTS);
        CHECK.due("the tape went", x.end(1), false);
        CHECK.reads("NONE, refused (1), with a FAULT (all stays; one without a STATEMENT has FAULT 1 at its length).");
        x.hours(2);
        x.bid(0, 0, 9);
        Check.see(x, 0, 18);
        x.image();
        Check.tape(x, "sea 9;moon z at 9");
        CHECK.refused("a fault", x, 1, NONE, MoonTender::sea);
        CHECK.due("fault 4", x.fault(0), 4);
        CHECK.due("the tape went, too", x.end(1), false);
        CHECK.refused("without a statement", x, 1, NONE, MoonTender::sea);
        CHECK.due("fault 1", x.fault(0), 1);
        CHECK.due("at 0", x.fault(1), 0);
        Check.tape(x, " \n ");
        CHECK.refused("blanks alone", x, 1, NONE, MoonTender::sea);
        CHECK.due("at 3", x.fault(1), 3);
        CHECK.reads("Without one it is HOUR 0, nothing is DUE or SEEN, no ACT can be undone; the seed stays.");
        CHECK.due("a seed", x.seed(77), true);
        CHECK.due("due ahead of it", x.has(9) > 0 && x.payers(0) >= 0 && x.has(10) > 0 && x.has(7) > 0, true);
        CHECK.due("the same sea again", Check.sea(x, Example.SEA), Example.STATEMENTS);
        int[] has = {6, 2, 3, 3, 2, 20, 5, 0, 14, 0, 0, 77};
        for (int what = 0; what < has.length; what++) {
            CHECK.due("has(" + what + ")", x.has(what), has[what]);
        }
        CHECK.due("nothing is seen", x.payers(0), NONE);
        CHECK.due("no act can be undone", x.undo(), false);
        CHECK.due("the bid as told", x.bids(0, 0, 0), 3);
    }

    private static void fault() {
        CHECK.reads("## Promise 5: fault `int fault(int what)`: Of the latest sea(): its FAULT (what 0; 0 without, and ahead of"
                + " any), its place (1; NONE without).");
        MoonTender x = new MoonTender();
        CHECK.due("ahead of any", x.fault(0), 0);
        CHECK.due("its place", x.fault(1), NONE);
        String[] texts = {"sea 4;sea", "sea 4;moon a at 0 goes 0 temper 0;moon a", "sea 4;pays a", "sea 4;level 100",
            "sea 4;pull ((((((((", "sea 4;pull 1;pull 1"};
        int[] places = {6, 39, 11, 12, 18, 13};
        for (int k = 0; k < 6; k++) {
            CHECK.due(texts[k], Check.sea(x, texts[k]), NONE);
            CHECK.due("fault of " + texts[k], x.fault(0), k + 1);
            CHECK.due("place of the fault of " + texts[k], x.fault(1), places[k]);
        }
        Check.tape(x, "sea 4;");
        CHECK.due("of the latest sea(), not of the tape", x.fault(0), 6);
        CHECK.due("a sea", x.sea(), 1);
        CHECK.due("without", x.fault(0), 0);
        CHECK.due("without a place", x.fault(1), NONE);
        CHECK.reads("NONE for another what.");
        Check.sea(x, "?");
        always("fault", NONE, x::fault, 2, 3);
        CHECK.due("fault 1 at 0", x.fault(0) == 1 && x.fault(1) == 0, true);
    }

    private static void has() {
        CHECK.reads("## Promise 6: has `int has(int what)`: How many there are: 0 PLACES, 1 MOONS, 2 HARBORS, 3 DEBTS, 4"
                + " CLAUSES, 5 level, 6 sulk, 7 HOUR, 8 coins in purses, 9 coins DUE, 10 ACTS that can be undone, 11 the seed.");
        MoonTender x = example();
        x.soothe(0, 2);
        for (int t = 1; t <= 6; t++) {
            x.hours(1);
            int coins = Example.PURSES[t][0] + Example.PURSES[t][1] + Example.PURSES[t][2];
            int due = Example.DUES[t][0] + Example.DUES[t][1] + Example.DUES[t][2];
            int[] has = {6, 2, 3, 3, 2, 20, 5, t, coins, due, t + 1, 1};
            for (int what = 0; what < has.length; what++) {
                CHECK.due("has(" + what + ") in hour " + t, x.has(what), has[what]);
            }
        }
        CHECK.reads("NONE for others.");
        always("has", NONE, x::has, 12);
    }

    private static void letter() {
        CHECK.reads("## Promise 7: letter `int letter(int kind, int which, int k)`: Letter k (0 .. 5) of the NAME of a MOON (kind"
                + " 0), a HARBOR (1): 1 .. 26; 0 behind it;");
        MoonTender x = CHECK.sea("sea 4;moon az at 0 goes 0 temper 0;moon b at 0 goes 0 temper 0;harbor sixsix at 0 purse 0 depth 0;");
        int[][] names = {{1, 26, 0, 0, 0, 0}, {2, 0, 0, 0, 0, 0}, {19, 9, 24, 19, 9, 24}};
        for (int k = 0; k < 6; k++) {
            CHECK.due("az " + k, x.letter(0, 0, k), names[0][k]);
            CHECK.due("b " + k, x.letter(0, 1, k), names[1][k]);
            CHECK.due("sixsix " + k, x.letter(1, 0, k), names[2][k]);
        }
        CHECK.reads("NONE when there is none such.");
        always("kind", NONE, n -> x.letter(n, 0, 0), 2);
        always("moon", NONE, n -> x.letter(0, n, 0), 2, 3);
        always("harbor", NONE, n -> x.letter(1, n, 0), 1, 8);
        always("letter", NONE, n -> x.letter(1, 0, n), 6);
    }

    private static void moon() {
        CHECK.reads("## Promise 8: moon `int moon(int moon, int what)`: Of a MOON: 0 its PLACE, 1 how many PLACES it goes, 2"
                + " temper, 3 what all HARBORS bid it, 4 what is DUE to it, 5 whether it SULKS.");
        MoonTender x = example();
        for (int t = 0; t <= 6; t++) {
            int[] due = {Example.DUES[t][0] + Example.DUES[t][1], Example.DUES[t][2]};
            int[][] want = {{Example.MOONS_AT[t][0], 1, 2, 4, due[0], due[0] >= 5 ? 1 : 0},
                {Example.MOONS_AT[t][1], 2, 5, 3, due[1], 0}};
            for (int what = 0; what < 6; what++) {
                CHECK.due("moon(0, " + what + ") in hour " + t, x.moon(0, what), want[0][what]);
                CHECK.due("moon(1, " + what + ") in hour " + t, x.moon(1, what), want[1][what]);
            }
            x.hours(1);
        }
        CHECK.reads("NONE when there is none such, or for others.");
        always("moon", NONE, n -> x.moon(n, 0), 2, 3);
        always("what", NONE, n -> x.moon(0, n), 6);
    }

    private static void harbor() {
        CHECK.reads("## Promise 9: harbor `int harbor(int harbor, int what)`: Of a HARBOR: 0 its PLACE, 1 purse, 2 depth, 3 all"
                + " that it bids, 4 all that is DUE from it, 5 whether it is STRANDED, 6 what it owes, 7 what it is owed, 8"
                + " whether it FAILS, 9 its HELP.");
        MoonTender x = example();
        int[] place = {0, 3, 5};
        int[] depth = {20, 21, 0};
        int[] bids = {3, 2, 2};
        int[] owes = {12, 5, 1};
        int[] owed = {1, 12, 5};
        for (int t = 0; t <= 6; t++) {
            for (int h = 0; h < 3; h++) {
                int purse = Example.PURSES[t][h];
                int help = Math.max(0, owes[h] - purse - owed[h]);
                int[] want = {place[h], purse, depth[h], bids[h], Example.duesFrom(t)[h], Example.STRANDED[t][h], owes[h],
                    owed[h], fails(t, h), help};
                for (int what = 0; what < 10; what++) {
                    CHECK.due("harbor(" + h + ", " + what + ") in hour " + t, x.harbor(h, what), want[what]);
                }
            }
            x.hours(1);
        }
        CHECK.reads("NONE when there is none such, or for others.");
        always("harbor", NONE, n -> x.harbor(n, 0), 3, 8);
        always("what", NONE, n -> x.harbor(0, n), 10);
    }

    /** h always fails; so i, if it has not its 5, and then j, if it has not its 1. */
    private static int fails(int t, int harbor) {
        boolean i = Example.PURSES[t][1] < 5;
        boolean j = i && Example.PURSES[t][2] < 1;
        return harbor == 0 || harbor == 1 && i || harbor == 2 && j ? 1 : 0;
    }

    private static void bids() {
        CHECK.reads("## Promise 10: bids `int bids(int harbor, int moon, int what)`: What a HARBOR bids a MOON (what 0), what is"
                + " DUE (1).");
        MoonTender x = example();
        int[][] bids = {{3, 0}, {0, 2}, {1, 1}};
        for (int t = 0; t <= 6; t++) {
            int[][] due = {{Example.DUES[t][0], 0}, {0, 0}, {Example.DUES[t][1], Example.DUES[t][2]}};
            for (int h = 0; h < 3; h++) {
                for (int m = 0; m < 2; m++) {
                    CHECK.due("bids(" + h + ", " + m + ", 0) in hour " + t, x.bids(h, m, 0), bids[h][m]);
                    CHECK.due("bids(" + h + ", " + m + ", 1) in hour " + t, x.bids(h, m, 1), due[h][m]);
                }
            }
            x.hours(1);
        }
        CHECK.reads("NONE when there are none such, or for others.");
        always("harbor", NONE, n -> x.bids(n, 0, 0), 3);
        always("moon", NONE, n -> x.bids(0, n, 0), 2, 3);
        always("what", NONE, n -> x.bids(0, 0, n), 2);
    }

    private static void pullAndHeight() {
        CHECK.reads("## Promise 11: pull `int pull(int moon, int place)`: PULL of a MOON on a PLACE now;");
        MoonTender x = example();
        for (int t = 0; t <= 6; t++) {
            for (int p = 0; p < 6; p++) {
                CHECK.due("pull(0, " + p + ") in hour " + t, x.pull(0, p), p == Example.MOONS_AT[t][0] ? 4 : 0);
                CHECK.due("pull(1, " + p + ") in hour " + t, x.pull(1, p), p == Example.MOONS_AT[t][1] ? 3 : 0);
            }
            x.hours(1);
        }
        CHECK.reads("NOTHING when there are none such.");
        always("moon", NOTHING, n -> x.pull(n, 0), 2);
        always("place", NOTHING, n -> x.pull(0, n), 6);
        CHECK.due("-1 is a number", CHECK.sea("sea 4;moon m at 0 goes 0 temper 0;pull 0-1;").pull(0, 0), -1);

        CHECK.reads("## Promise 12: height `int height(int place, int ahead)`: HEIGHT of a PLACE AHEAD;");
        MoonTender y = example();
        for (int t = 0; t <= 48; t++) {
            for (int p = 0; p < 6; p++) {
                CHECK.due("height(" + p + ", " + t + ")", y.height(p, t), Example.HEIGHTS[t % 6][p]);
            }
        }
        CHECK.reads("NOTHING when there are none such.");
        always("place", NOTHING, n -> y.height(n, 0), 6);
        always("ahead", NOTHING, n -> y.height(0, n), 49);
        MoonTender z = CHECK.sea("sea 4;moon m at 0 goes 0 temper 0;level 0;pull min(far,1);");
        CHECK.due("-1 is a height: 0 and 0, less 0 and 1", z.height(0, 0), -1);
    }

    private static void ahead() {
        CHECK.reads("## Promise 13: ahead `int ahead(int harbor, int ahead, int what)`: Of a HARBOR AHEAD, at that HOUR's beginning:"
                + " 0 its purse, 1 whether it is STRANDED, 2 all that is DUE from it.");
        MoonTender x = example();
        for (int now = 0; now <= 2; now++) {
            for (int t = 0; t + now <= 6; t++) {
                for (int h = 0; h < 3; h++) {
                    String at = "harbor " + h + ", " + t + " hours from hour " + now;
                    CHECK.due("purse of " + at, x.ahead(h, t, 0), Example.PURSES[now + t][h]);
                    CHECK.due("stranded " + at, x.ahead(h, t, 1), Example.STRANDED[now + t][h]);
                    CHECK.due("due from " + at, x.ahead(h, t, 2), Example.duesFrom(now + t)[h]);
                }
            }
            x.hours(1);
        }
        CHECK.due("that changes nothing now", x.has(7), 3);
        CHECK.reads("NONE when there are none such, or for others.");
        always("harbor", NONE, n -> x.ahead(n, 0, 0), 3);
        always("ahead", NONE, n -> x.ahead(0, n, 0), 49);
        always("what", NONE, n -> x.ahead(0, 0, n), 3);
    }

    private static void broken() {
        CHECK.reads("## Promise 14: broken `int broken(int what)`: The first CLAUSE BROKEN from now on (by HOURS AHEAD, HARBORS,"
                + " CLAUSES): 0 the HOUR AHEAD, 1 the HARBOR, 2 the CLAUSE.");
        MoonTender x = example();
        for (int now = 0; now <= 3; now++) {
            CHECK.due("hour 3, from hour " + now, x.broken(0), 3 - now);
            CHECK.due("by h, ahead of j", x.broken(1), 0);
            CHECK.due("the first clause", x.broken(2), 0);
            x.hours(1);
        }
        MoonTender y = CHECK.sea("sea 4;harbor h at 0 purse 5 depth 0;harbor i at 1 purse 4 depth 0;earns 1;"
                + "clause purse<7 or place=0;clause purse<7 or place=1;clause purse<7;");
        CHECK.due("hour 2", y.broken(0), 2);
        CHECK.due("h, though i would break an earlier clause later", y.broken(1), 0);
        CHECK.due("the first one that h breaks", y.broken(2), 1);
        y.give(0, 1, 1);
        CHECK.due("i now", y.broken(1), 1);
        CHECK.due("its first one", y.broken(2), 0);
        CHECK.reads("NONE when none is, or for others.");
        always("what", NONE, y::broken, 3);
        MoonTender z = CHECK.sea("sea 4;harbor h at 0 purse 0 depth 0;earns 1;clause purse<49;");
        CHECK.due("49 coins are beyond the 48th hour", z.broken(0), NONE);
        CHECK.due("no harbor", z.broken(1), NONE);
        z.hours(1);
        CHECK.due("now in the 48th", z.broken(0), 48);
        CHECK.due("without harbors", CHECK.sea("sea 4;clause 1<1;").broken(0), NONE);
        CHECK.due("without clauses", CHECK.sea("sea 4;harbor h at 0 purse 0 depth 0;").broken(0), NONE);
    }

    private static void stranded() {
        CHECK.reads("## Promise 15: stranded `int stranded(int ahead, int what)`: How many HARBORS are STRANDED AHEAD (what 0), the"
                + " first HOUR AHEAD from that one on in which somebody is (1).");
        MoonTender x = example();
        int[] count = {0, 2, 2, 1, 2, 2};
        for (int t = 0; t <= 48; t++) {
            CHECK.due("stranded(" + t + ", 0)", x.stranded(t, 0), count[t % 6]);
            int first = t % 6 == 0 ? t + 1 : t;
            CHECK.due("stranded(" + t + ", 1)", x.stranded(t, 1), first > 48 ? NONE : first);
        }
        CHECK.reads("NONE when there is none such, or for others.");
        always("ahead", NONE, n -> x.stranded(n, 0), 49);
        always("from", NONE, n -> x.stranded(n, 1), 49);
        always("what", NONE, n -> x.stranded(1, n), 2);
        MoonTender y = CHECK.sea("sea 4;harbor h at 0 purse 0 depth 20;");
        CHECK.due("none", y.stranded(0, 0), 0);
        CHECK.due("never", y.stranded(0, 1), NONE);
    }

    private static void bid() {
        CHECK.reads("## Promise 16: bid `int bid(int harbor, int moon, int n)`: A HARBOR bids a MOON n (0 .. 20): what it bid;");
        MoonTender x = example();
        CHECK.due("20 for 3", x.bid(0, 0, 20), 3);
        CHECK.due("0 for 20", x.bid(0, 0, 0), 20);
        CHECK.due("0 for 0", x.bid(0, 0, 0), 0);
        CHECK.due("each is an act", x.has(10), 3);
        CHECK.due("a is bid 1 by j alone", x.moon(0, 3), 1);
        CHECK.due("so it pulls 1", x.pull(0, 0), 1);
        CHECK.reads("NONE, refused (2), when that can't be.");
        for (int[] row : new int[][] {{-1, 0, 1}, {3, 0, 1}, {0, -1, 1}, {0, 2, 1}, {0, 0, -1}, {0, 0, 21}}) {
            CHECK.refused("bid " + row[0] + " " + row[1] + " " + row[2], x, 2, NONE, y -> y.bid(row[0], row[1], row[2]));
        }
    }

    private static void give() {
        CHECK.reads("## Promise 17: give `boolean give(int from, int to, int n)`: n coins (1 and more) are given: true;");
        MoonTender x = example();
        CHECK.due("1", x.give(0, 1, 1), true);
        CHECK.due("all", x.give(0, 2, 9), true);
        CHECK.due("purses", x.harbor(0, 1) == 0 && x.harbor(1, 1) == 5 && x.harbor(2, 1) == 9, true);
        CHECK.due("acts", x.has(10), 2);
        CHECK.reads("false, refused (2), when there are none such, it is one HARBOR, its purse has not so many, or the other one's"
                + " would have more than 9999.");
        for (int[] row : new int[][] {{-1, 0, 1}, {3, 0, 1}, {1, -1, 1}, {1, 3, 1}, {1, 1, 1}, {1, 0, 6}, {1, 0, 0},
            {1, 0, -1}, {0, 1, 1}, {1, 0, Integer.MAX_VALUE}}) {
            CHECK.refused("give " + row[0] + " " + row[1] + " " + row[2], x, 2, 0, y -> bit(y.give(row[0], row[1], row[2])));
        }
        Check.withPurse(x, 0, 9996);
        CHECK.refused("10000", x, 2, 0, y -> bit(y.give(1, 0, 4)));
        CHECK.due("9999", x.give(1, 0, 3), true);
        CHECK.due("it has", x.harbor(0, 1), 9999);
    }

    private static void soothe() {
        CHECK.reads("## Promise 18: soothe `int soothe(int moon, int n)`: A MOON's temper is n (0 .. 9): what it was;");
        MoonTender x = example();
        CHECK.due("9 for 2", x.soothe(0, 9), 2);
        CHECK.due("0 for 9", x.soothe(0, 0), 9);
        CHECK.due("the other one", x.moon(1, 2), 5);
        CHECK.due("acts", x.has(10), 2);
        CHECK.reads("NONE, refused (2), when that can't be.");
        for (int[] row : new int[][] {{-1, 0}, {2, 0}, {0, -1}, {0, 10}}) {
            CHECK.refused("soothe " + row[0] + " " + row[1], x, 2, NONE, y -> y.soothe(row[0], row[1]));
        }
    }

    private static void hours() {
        CHECK.reads("## Promise 19: hours `int hours(int n)`: n HOURS (1 .. 200) go by: the HOUR then;");
        MoonTender x = example();
        CHECK.due("6", x.hours(6), 6);
        for (int h = 0; h < 3; h++) {
            CHECK.due("purse " + h, x.harbor(h, 1), Example.PURSES[6][h]);
        }
        CHECK.due("one act", x.has(10), 1);
        CHECK.due("200", x.hours(200), 206);
        CHECK.due("moon a", x.moon(0, 0), 206 % 6);
        CHECK.reads("NONE, refused (3), when n can't be, beyond 9999, or without a sea.");
        for (int n : new int[] {0, -1, 201, Integer.MIN_VALUE, Integer.MAX_VALUE}) {
            CHECK.refused("hours " + n, x, 3, NONE, y -> y.hours(n));
        }
        Check.withHour(x, 9900);
        CHECK.refused("beyond 9999", x, 3, NONE, y -> y.hours(100));
        CHECK.due("9999", x.hours(99), 9999);
        CHECK.refused("one more", x, 3, NONE, y -> y.hours(1));
        CHECK.refused("without a sea", new MoonTender(), 3, NONE, y -> y.hours(1));
    }

    private static void storms() {
        CHECK.reads("## Promise 20: storms `int storms(int n)`: n HOURS (1 .. 100) with STORMS, one ACT: the HOUR then;");
        MoonTender x = example();
        CHECK.due("3", x.storms(3), 3);
        CHECK.due("one act", x.has(10), 1);
        CHECK.due("seed", x.has(11), 368800899);
        // DRAWS by the seed 1: 17242618 and 5896899, 10356626 and 17935980, 31797116 and 5762514: MOON 0 each time
        CHECK.due("moon a", x.moon(0, 2), 4);
        CHECK.due("moon b", x.moon(1, 2), 5);
        for (int h = 0; h < 3; h++) {
            CHECK.due("hours go by as ever: purse " + h, x.harbor(h, 1), Example.PURSES[3][h]);
        }
        CHECK.due("100", x.storms(100), 103);
        CHECK.reads("NONE, refused (3), likewise.");
        for (int n : new int[] {0, -1, 101, Integer.MIN_VALUE, Integer.MAX_VALUE}) {
            CHECK.refused("storms " + n, x, 3, NONE, y -> y.storms(n));
        }
        Check.withHour(x, 9950);
        CHECK.refused("beyond 9999", x, 3, NONE, y -> y.storms(50));
        CHECK.due("9999", x.storms(49), 9999);
        CHECK.refused("one more", x, 3, NONE, y -> y.storms(1));
        CHECK.refused("without a sea", new MoonTender(), 3, NONE, y -> y.storms(1));
    }

    private static void undo() {
        CHECK.reads("## Promise 21: undo `boolean undo()`: The latest ACT is undone: all is as it was ahead of it (but the seed):"
                + " true;");
        MoonTender x = example();
        String first = Check.all(x);
        x.bid(2, 1, 8);
        String second = Check.all(x);
        x.give(0, 1, 2);
        String third = Check.all(x);
        x.soothe(1, 1);
        x.hours(7);
        String fifth = Check.all(x);
        x.storms(4);
        int seed = x.has(11);
        CHECK.due("undo storms", x.undo(), true);
        CHECK.due("but the seed", x.has(11), seed);
        x.seed(1);
        CHECK.same("undo", Check.all(x), fifth);
        CHECK.due("undo two", x.undo() && x.undo(), true);
        CHECK.same("undo", Check.all(x), third);
        CHECK.due("undo", x.undo(), true);
        CHECK.same("undo", Check.all(x), second);
        CHECK.due("undo", x.undo(), true);
        CHECK.same("undo", Check.all(x), first);
        CHECK.reads("false, refused (4), when none can be.");
        CHECK.refused("undo", x, 4, 0, y -> bit(y.undo()));
        CHECK.refused("undo of a new one", new MoonTender(), 4, 0, y -> bit(y.undo()));
    }

    private static void seed() {
        CHECK.reads("## Promise 22: seed `boolean seed(int seed)`: The seed: true;");
        MoonTender x = new MoonTender();
        for (int seed : new int[] {0, 1, 12345, Integer.MAX_VALUE}) {
            CHECK.due("seed", x.seed(seed), true);
            CHECK.due("has(11)", x.has(11), seed);
        }
        MoonTender y = example();
        y.seed(12345);
        CHECK.due("it is no act", y.has(10), 0);
        CHECK.reads("false, refused (5), when it is below 0.");
        CHECK.refused("-1", x, 5, 0, z -> bit(z.seed(-1)));
        CHECK.refused("the least", y, 5, 0, z -> bit(z.seed(Integer.MIN_VALUE)));
    }

    private static void wished() {
        CHECK.reads("## Promise 23: wished `int wished(int harbor, int height, int k)`: WISHED by a HARBOR for a HEIGHT (-999 .."
                + " 999): the sum (k NONE), what it bids MOON k.");
        MoonTender x = example();
        // HEIGHT of i, were its bids p, q: 21 + q - floor((p + q + 5) / 6), one less if 4 or 5 are left by that
        int[][] byI = {{-999, 0, 0, 0}, {20, 0, 0, 0}, {21, 1, 0, 1}, {22, 2, 0, 2}, {23, 3, 0, 3}, {24, 4, 0, 4},
            {25, 6, 0, 6}, {26, 7, 0, 7}};
        for (int[] row : byI) {
            for (int k = -1; k < 2; k++) {
                CHECK.due("wished(1, " + row[0] + ", " + k + ")", x.wished(1, row[0], k), row[k + 2]);
            }
        }
        CHECK.reads("NONE when no bids do, something can't be, or for others.");
        CHECK.due("999", x.wished(1, 999, -1), NONE);
        for (int height : new int[] {-1000, 1000, Integer.MIN_VALUE, Integer.MAX_VALUE}) {
            CHECK.due("height " + height, x.wished(1, height, -1), NONE);
        }
        always("harbor", NONE, n -> x.wished(n, 0, -1), 3);
        for (int k : new int[] {-2, 2, 3, Integer.MIN_VALUE, Integer.MAX_VALUE}) {
            CHECK.due("k " + k, x.wished(1, 20, k), NONE);
        }
        CHECK.due("the bids stay", x.bids(1, 1, 0), 2);
    }

    private static void rest() {
        CHECK.reads("## Promise 24: rest `int rest(int k)`: REST: in which round nobody took other ones (k NONE; 13 if 12 were not"
                + " enough), what HARBOR h bids MOON m then (k: 10 h and m).");
        MoonTender x = CHECK.sea("sea 6;moon a at 0 goes 0 temper 0;moon b at 3 goes 0 temper 0;harbor h at 0 purse 0 depth 0;"
                + "harbor i at 3 purse 0 depth 0;pull 6*paid*(1-min(1,far));");
        // a coin to the MOON at one's own PLACE gives 6, less 1 for all; one to the other MOON costs
        CHECK.due("all have taken 4 in round 1", x.rest(-1), 2);
        CHECK.due("h to a", x.rest(0), 4);
        CHECK.due("h to b", x.rest(1), 0);
        CHECK.due("i to a", x.rest(10), 0);
        CHECK.due("i to b", x.rest(11), 4);
        x.bid(0, 0, 4);
        x.bid(1, 1, 4);
        CHECK.due("nobody takes other ones", x.rest(-1), 1);
        CHECK.reads("NONE for others, or without a sea.");
        always("rest", NONE, n -> x.rest(n == -1 ? -3 : n), 2, 9, 12, 20, 21, 100);
        CHECK.due("without a sea", new MoonTender().rest(-1), NONE);
        CHECK.due("without harbors", CHECK.sea("sea 4;").rest(-1), 1);
    }

    private static void across() {
        CHECK.reads("## Promise 25: across `int across(int from, int to, int draught)`: ACROSS from HARBOR to HARBOR by a draught (0 .."
                + " 99): how many HOURS (0 when it is one and it floats).");
        MoonTender x = example();
        int[][] rows = {{0, 1, 0, 3}, {0, 1, 22, 3}, {0, 0, 22, 0}, {0, 2, 18, 1}, {0, 2, 22, 1}, {2, 0, 18, 1}, {2, 0, 19, 6},
            {1, 2, 19, 2}, {1, 0, 19, 6}};
        for (int[] row : rows) {
            CHECK.due("across(" + row[0] + ", " + row[1] + ", " + row[2] + ")", x.across(row[0], row[1], row[2]), row[3]);
        }
        CHECK.reads("NONE when it can't be, or something can't be.");
        CHECK.due("it does not float at first", x.across(0, 0, 23), NONE);
        CHECK.due("it floats at first, but then nowhere", x.across(1, 0, 20), NONE);
        CHECK.due("99", x.across(0, 1, 99), NONE);
        always("from", NONE, n -> x.across(n, 0, 0), 3);
        always("to", NONE, n -> x.across(0, n, 0), 3);
        always("draught", NONE, n -> x.across(0, 0, n), 100);
    }

    private static void latest() {
        CHECK.reads("## Promise 26: latest `int latest(int from, int to, int draught)`: LATEST, likewise;");
        MoonTender x = example();
        int[][] rows = {{0, 1, 0, 45}, {0, 1, 18, 45}, {0, 1, 19, 42}, {0, 1, 22, 42}, {0, 0, 22, 48}, {1, 1, 22, 48},
            {1, 1, 26, 45}, {0, 2, 22, 42}, {2, 0, 19, 47}};
        for (int[] row : rows) {
            CHECK.due("latest(" + row[0] + ", " + row[1] + ", " + row[2] + ")", x.latest(row[0], row[1], row[2]), row[3]);
        }
        CHECK.reads("NONE when there is none.");
        CHECK.due("23 never floats at PLACE 0", x.latest(0, 1, 23), NONE);
        always("from", NONE, n -> x.latest(n, 0, 0), 3);
        always("to", NONE, n -> x.latest(0, n, 0), 3);
        always("draught", NONE, n -> x.latest(0, 0, n), 100);
    }

    private static void meet() {
        CHECK.reads("## Promise 27: meet `int meet(int what)`: ALL MEET: the HOUR (what 0), the PLACE (1).");
        MoonTender x = CHECK.sea("sea 7;moon a at 1 goes 1 temper 0;moon b at 3 goes 3 temper 0;moon c at 4 goes 0 temper 0;");
        // a and b: 1 + t = 3 + 3 t, so 2 t = -2, t = 6 (mod 7), at PLACE 0; c is not there
        CHECK.due("never", x.meet(0), NONE);
        CHECK.due("nowhere", x.meet(1), NONE);
        Check.withPlace(x, 2, 0);
        CHECK.due("hour 6", x.meet(0), 6);
        CHECK.due("place 0", x.meet(1), 0);
        x.hours(6);
        CHECK.due("now", x.meet(0), 6);
        x.hours(1);
        CHECK.due("hour 13", x.meet(0), 13);
        CHECK.reads("NONE when they do not, there are no MOONS, or for others.");
        always("what", NONE, x::meet, 2);
        CHECK.due("no moons", CHECK.sea("sea 4;").meet(0), NONE);
        CHECK.due("no sea", new MoonTender().meet(0), NONE);
    }

    private static void see() {
        CHECK.reads("## Promise 28: see `int see()`: The tape (it goes) is what is SEEN: 1 to 20 rows of three bytes: PLACE, HEIGHT and"
                + " 1000 (two bytes, the higher first): how many rows;");
        MoonTender x = example();
        Check.tape(x, 0, 3, 254);
        CHECK.due("3 * 256 + 254 is 1022", x.see(), 1);
        CHECK.due("so 22 is seen at PLACE 0", x.payers(0), 3);
        CHECK.due("the tape went", x.end(1), false);
        int[] twenty = new int[40];
        for (int k = 0; k < 20; k++) {
            twenty[2 * k] = k % 6;
            twenty[2 * k + 1] = 20;
        }
        CHECK.due("twenty rows", Check.see(x, twenty), 20);
        CHECK.due("nobody paid", x.payers(0) == 1 && x.payers(2) == 0, true);
        CHECK.reads("NONE, refused (5), all staying, when it is none such.");
        Check.tape(x);
        CHECK.refused("no rows", x, 5, NONE, MoonTender::see);
        Check.tape(x, 0, 3);
        CHECK.refused("two bytes", x, 5, NONE, MoonTender::see);
        Check.tape(x, 0, 3, 254, 1);
        CHECK.refused("four bytes", x, 5, NONE, MoonTender::see);
        Check.tape(x, 0, 3, 254, 6, 3, 254);
        CHECK.refused("PLACE 6", x, 5, NONE, MoonTender::see);
        Check.tape(x, new int[63]);
        CHECK.refused("21 rows", x, 5, NONE, MoonTender::see);
        CHECK.due("the tape goes then, too", x.end(1), false);
        MoonTender y = new MoonTender();
        Check.tape(y, 0, 3, 254);
        CHECK.refused("without a sea", y, 5, NONE, MoonTender::see);
    }

    private static void payers() {
        CHECK.reads("## Promise 29: payers `int payers(int what)`: PAYERS: how many sets (what 0), HARBORS in all of them, as bits (1;"
                + " 0 without), in some (2).");
        MoonTender x = example();
        // HEIGHT of PLACE 3 by a set: none 20, h 20, i 22, j 21, h i 21, h j 20, i j 22, all 22
        int[][] byPlace3 = {{20, 3, 0, 5}, {21, 2, 0, 7}, {22, 3, 2, 7}, {23, 0, 0, 0}};
        for (int[] row : byPlace3) {
            Check.see(x, 3, row[0]);
            for (int what = 0; what < 3; what++) {
                CHECK.due("payers(" + what + ") for " + row[0], x.payers(what), row[1 + what]);
            }
        }
        CHECK.reads("NONE when nothing is SEEN, or for others.");
        always("what", NONE, x::payers, 3);
        MoonTender y = example();
        for (int what = 0; what < 3; what++) {
            CHECK.due("nothing is seen", y.payers(what), NONE);
        }
    }

    private static void image() {
        CHECK.reads("## Promise 30: image `int image()`: AN IMAGE is written: how many bytes.");
        CHECK.due("three without a sea", new MoonTender().image(), 3);
        CHECK.due("two moons, three harbors", example().image(), 2 + 2 * 2 + 3 * (2 + 2 * 3) + 1);
        CHECK.due("moons alone", CHECK.sea("sea 4;moon a at 0 goes 0 temper 0;").image(), 5);
        CHECK.due("a harbor alone", CHECK.sea("sea 4;harbor h at 0 purse 0 depth 0;").image(), 5);
    }

    private static void octet() {
        CHECK.reads("## Promise 31: octet `int octet(int k)`: Byte k of the latest image();");
        MoonTender x = example();
        x.hours(1);
        x.image();
        int[] image = Check.image(0, 1, 1, 2, 5, 5, 0, 10, 3, 0, 0, 0, 0, 0, 0, 5, 0, 0, 0, 2, 0, 0, 0, 0, 1, 0, 1, 1, 0, 1);
        for (int k = 0; k < image.length; k++) {
            CHECK.due("octet(" + k + ")", x.octet(k), image[k]);
        }
        x.hours(1);
        CHECK.due("the latest one still", x.octet(1), 1);
        x.image();
        CHECK.due("the latest one now", x.octet(1), 2);
        CHECK.reads("NONE when there is none such.");
        always("octet", NONE, x::octet, 31);
        always("ahead of any", NONE, example()::octet, 0, 1);
    }

    private static void on() {
        CHECK.reads("## Promise 32: on `boolean on()`: The tape (it goes) is AN IMAGE of this SEA: true, all is as it tells, no ACT can"
                + " be undone;");
        MoonTender x = example();
        x.hours(4);
        x.soothe(0, 7);
        String then = Check.all(x).replaceFirst(" 2 1 ", " 0 1 ");
        int[] image = Check.image(Check.picture(x));
        MoonTender y = example();
        y.bid(0, 0, 9);
        CHECK.due("on", Check.on(y, image), true);
        CHECK.same("an image", Check.all(y), then);
        CHECK.due("no act", y.undo(), false);
        CHECK.due("the tape went", y.end(1), false);
        int[] most = Check.image(39, 15, 5, 9, 5, 9, 39, 15, 20, 39, 15, 20, 39, 15, 39, 15, 20, 39, 15, 20, 39, 15, 39, 15, 20, 39,
                15, 20, 39, 15);
        CHECK.due("the most of all", Check.on(y, most), true);
        CHECK.due("hour, coins, dues", y.has(7) == 9999 && y.has(8) == 3 * 9999 && y.has(9) == 6 * 9999, true);
        CHECK.reads("false, refused (5), all staying, if it is none such (HOURS, purses, DUES 9999 at most; PLACES that there are;"
                + " tempers 9, bids 20 at most), or there is no sea.");
        int[][] one = {{0, 39, 16}, {2, 6}, {3, 10}, {4, 6}, {5, 10}, {6, 39, 16}, {8, 21}, {9, 39, 16}, {22, 39, 16},
            {27, 21}, {28, 39, 16}, {0, 255, 255}, {2, 255}};
        for (int[] row : one) {
            int[] ahead = java.util.Arrays.copyOf(most, 30);
            System.arraycopy(row, 1, ahead, row[0], row.length - 1);
            Check.tape(y, Check.image(ahead));
            CHECK.refused("byte " + row[0] + " is " + row[1], y, 5, 0, z -> bit(z.on()));
        }
        int[] other = most.clone();
        other[30] = (other[30] + 1) % 251;
        Check.tape(y, other);
        CHECK.refused("another last byte", y, 5, 0, z -> bit(z.on()));
        Check.tape(y, java.util.Arrays.copyOf(most, 30));
        CHECK.refused("a byte less", y, 5, 0, z -> bit(z.on()));
        Check.tape(y, java.util.Arrays.copyOf(most, 32));
        CHECK.refused("a byte more", y, 5, 0, z -> bit(z.on()));
        MoonTender n = new MoonTender();
        n.image();
        Check.tape(n, n.octet(0), n.octet(1), n.octet(2));
        CHECK.refused("no sea", n, 5, 0, z -> bit(z.on()));
    }

    private static void status() {
        CHECK.reads("## Promise 33: status `int status(int what)`: How many were refused: 0 feed(), end(); 1 sea(); 2 bid(), give(),"
                + " soothe(); 3 hours(), storms(); 4 undo(); 5 seed(), see(), on().");
        MoonTender x = example();
        for (int n = 0; n < 6; n++) {
            CHECK.due("none at first", x.status(n), 0);
        }
        Check.tape(x, new int[1600]);
        x.feed(0, 0, 0, 0, 0);
        x.end(-1);
        x.end(0);
        x.sea();
        x.bid(9, 9, 9);
        x.give(9, 9, 9);
        x.soothe(9, 9);
        x.hours(0);
        x.storms(0);
        x.undo();
        x.seed(-1);
        x.see();
        x.on();
        int[] refused = {2, 1, 3, 2, 1, 3};
        for (int what = 0; what < 6; what++) {
            CHECK.due("status(" + what + ")", x.status(what), refused[what]);
        }
        CHECK.reads("NONE for others.");
        always("status", NONE, x::status, 6);
    }

    private static void notPromised() {
        CHECK.reads("## Not promised How the state is held inside the object is free, as are the speed of each call, the text of"
                + " toString and the behaviour of equals and hashCode. Use of one object from several threads at once is not"
                + " promised to be safe. Nothing is promised beyond the answers and state changes described above, and nothing"
                + " about an object after its 512th call.");
    }
}
