/** The bounds that "Terms" II names: PULLS, HEIGHTS, what an HOUR does, ACTS that can be undone, the DRAW. */
public final class HourBoundsTest {
    private static final Check CHECK = new Check();
    private static final String MOON = "moon m at 0 goes 0 temper 0;";
    private static final String HARBOR = "harbor h at 0 purse 0 depth 0;";
    private static final String TWO = "harbor h at 0 purse 0 depth 0;harbor i at 1 purse 0 depth 0;";

    public static void main(String[] args) {
        sulks();
        pullBounds();
        pullWithout();
        heightParts();
        heightPartsBelow();
        heightsTogether();
        heightExtremes();
        strandedBounds();
        brokenAtTheBeginning();
        earnsBounds();
        earnsByThePurse();
        purseBounds();
        bidAndPurse();
        dueBounds();
        dueAndPurse();
        harborByHarbor();
        moonsGo();
        hourBounds();
        actKinds();
        lastTwenty();
        draws();
        drawSeeds();
        stormsWithoutMoons();
        CHECK.finish("HourBoundsTest");
    }

    private static void sulks() {
        CHECK.says("A MOON SULKS, if what is DUE to it from all HARBORS is sulk or more");
        for (int sulk : new int[] {1, 2, 50, 999}) {
            MoonTender x = CHECK.sea("sea 4;moon m at 0 goes 0 temper 0;moon n at 0 goes 0 temper 0;" + TWO + "sulk "
                    + sulk + ";pull sulks;");
            Check.withDue(x, 1, 0, sulk - 1);
            CHECK.due("due one less than sulk " + sulk, x.moon(0, 5), 0);
            CHECK.due("in pull", x.pull(0, 3), 0);
            Check.withDue(x, 1, 0, sulk);
            CHECK.due("due as much as sulk " + sulk, x.moon(0, 5), 1);
            CHECK.due("in pull", x.pull(0, 3), 1);
            CHECK.due("the other moon", x.moon(1, 5), 0);
            CHECK.due("the other moon's pull", x.pull(1, 3), 0);
            Check.withDue(x, 1, 0, sulk - 1);
            Check.withDue(x, 0, 0, 1);
            CHECK.due("due as much from two", x.moon(0, 5), 1);
            Check.withDue(x, 0, 1, 9999);
            Check.withDue(x, 1, 1, 9999);
            CHECK.due("the most from two", x.moon(1, 4), 2 * 9999);
            CHECK.due("sulks by it", x.moon(1, 5), 1);
        }
        MoonTender x = CHECK.sea("sea 4;" + MOON + HARBOR);
        Check.withDue(x, 0, 0, 49);
        CHECK.due("without sulk, 49", x.moon(0, 5), 0);
        Check.withDue(x, 0, 0, 50);
        CHECK.due("without sulk, 50", x.moon(0, 5), 1);
    }

    private static void pullBounds() {
        CHECK.says("its SUM, -99 .. 99 (below is -99, above 99");
        int[] sums = {0, 1, 98, 99, 100, 101, 9999, -1, -98, -99, -100, -101, -9999};
        for (int sum : sums) {
            MoonTender x = CHECK.sea("sea 4;" + MOON + "pull " + (sum < 0 ? "0-" + -sum : "" + sum) + ";");
            CHECK.due("pull of " + sum, x.pull(0, 2), Math.max(-99, Math.min(99, sum)));
        }
        MoonTender x = CHECK.sea("sea 4;" + MOON + "pull 99+far;");
        for (int p = 0; p < 4; p++) {
            CHECK.due("above on some places alone", x.pull(0, p), 99);
            CHECK.due("so all are alike", x.height(p, 0), 20);
        }
        MoonTender y = CHECK.sea("sea 4;" + MOON + "pull 98+far;");
        CHECK.due("just below", y.pull(0, 0), 98);
        CHECK.due("above", y.pull(0, 2), 99);
        MoonTender z = CHECK.sea("sea 4;" + MOON + "pull 9999*9999;");
        CHECK.due("the most", z.pull(0, 0), 99);
        MoonTender v = CHECK.sea("sea 4;" + MOON + "pull 0-9999*9999;");
        CHECK.due("the least", v.pull(0, 0), -99);
    }

    private static void pullWithout() {
        CHECK.says("0 without pull)");
        MoonTender x = CHECK.sea("sea 4;" + MOON + HARBOR + "pays h m 20;");
        for (int p = 0; p < 4; p++) {
            CHECK.due("pull(0, " + p + ")", x.pull(0, p), 0);
            CHECK.due("height(" + p + ", 0)", x.height(p, 0), 20);
        }
    }

    /** One more than 0 on the last k PLACES: T is k. */
    private static void heightParts() {
        CHECK.says("floor(T / PLACES), and 1 more for each PLACE whose number is below what is left by that");
        for (int places : new int[] {4, 5, 23, 24}) {
            for (int k = 0; k <= places; k++) {
                MoonTender x = CHECK.sea("sea " + places + ";" + MOON + "pull min(1,max(0,place-" + places + "+1+" + k + "));");
                for (int p = 0; p < places; p++) {
                    int pulled = p >= places - k ? 1 : 0;
                    int part = k == places ? 1 : p < k ? 1 : 0;
                    CHECK.due("T " + k + " of " + places + ": height " + p, x.height(p, 0), 20 + pulled - part);
                }
            }
        }
        for (int lead = 1; lead <= 9; lead++) {
            MoonTender x = CHECK.sea("sea 4;" + MOON + "pull " + lead + "*(1-min(1,far));");
            for (int p = 0; p < 4; p++) {
                int part = lead / 4 + (p < lead % 4 ? 1 : 0);
                CHECK.due("T " + lead + ": height " + p, x.height(p, 0), 20 - part + (p == 0 ? lead : 0));
            }
        }
    }

    /** One less than 0 on the last k PLACES: T is -k, floor of that -1 and PLACES - k left (but for 0, PLACES). */
    private static void heightPartsBelow() {
        CHECK.says("floor(T / PLACES)");
        for (int places : new int[] {4, 5, 23, 24}) {
            for (int k = 0; k <= places; k++) {
                MoonTender x = CHECK.sea("sea " + places + ";" + MOON + "pull 0-min(1,max(0,place-" + places + "+1+" + k + "));");
                for (int p = 0; p < places; p++) {
                    int pulled = p >= places - k ? -1 : 0;
                    int part = k == 0 ? 0 : k == places ? -1 : p < places - k ? 0 : -1;
                    CHECK.due("T -" + k + " of " + places + ": height " + p, x.height(p, 0), 20 + pulled - part);
                }
            }
        }
        for (int low = 1; low <= 9; low++) {
            MoonTender x = CHECK.sea("sea 4;" + MOON + "pull (0-" + low + ")*(1-min(1,far));");
            for (int p = 0; p < 4; p++) {
                int floor = Math.floorDiv(-low, 4);
                int part = floor + (p < -low - 4 * floor ? 1 : 0);
                CHECK.due("T -" + low + ": height " + p, x.height(p, 0), 20 - part - (p == 0 ? low : 0));
            }
        }
    }

    private static void heightsTogether() {
        CHECK.says("(So all HEIGHTS together are PLACES times level.)");
        String[] pulls = {"paid*9-far*7+place", "(place*37+hour)%23-9", "99-far*50", "place*place-99", "0-temper*far"};
        for (int places : new int[] {4, 7, 24}) {
            for (String pull : pulls) {
                for (int level : new int[] {0, 1, 99}) {
                    MoonTender x = CHECK.sea("sea " + places + ";level " + level + ";moon m at 0 goes 1 temper 9;"
                            + "moon n at 3 goes 3 temper 5;moon o at 2 goes 23 temper 2;" + HARBOR + "pays h m 9;pays h o 3;pull "
                            + pull + ";");
                    for (int t : new int[] {0, 1, 48}) {
                        int sum = 0;
                        for (int p = 0; p < places; p++) {
                            sum += x.height(p, t);
                        }
                        CHECK.due("heights of " + places + " by " + pull + " in " + t, sum, places * level);
                    }
                }
            }
        }
    }

    private static void heightExtremes() {
        CHECK.says("and the PULLS of all MOONS on it together, less its part of the PULLS on all PLACES together");
        String three = "moon a at 0 goes 0 temper 0;moon b at 0 goes 0 temper 0;moon c at 0 goes 0 temper 0;";
        MoonTender high = CHECK.sea("sea 24;level 99;" + three + "pull 99-999*min(1,far);");
        int total = 3 * (99 - 23 * 99);
        int part = Math.floorDiv(total, 24);
        int left = total - 24 * part;
        CHECK.due("the highest height", high.height(0, 0), 99 + 3 * 99 - part - (left > 0 ? 1 : 0));
        MoonTender low = CHECK.sea("sea 24;level 0;" + three + "pull 999*min(1,far)-99;");
        CHECK.due("the lowest height", low.height(0, 0), part - 3 * 99);
        MoonTender none = CHECK.sea("sea 24;level 0;pull 99;");
        CHECK.due("without moons", none.height(23, 48), 0);
        MoonTender both = CHECK.sea("sea 4;moon a at 0 goes 0 temper 3;moon b at 0 goes 0 temper 5;pull temper*(1-far);");
        int[] heights = {28, 20, 12, 20};
        for (int p = 0; p < 4; p++) {
            CHECK.due("two moons together on " + p, both.height(p, 0), heights[p]);
        }
    }

    private static void strandedBounds() {
        CHECK.says("STRANDED is a HARBOR whose HEIGHT is below its depth");
        int[][] rows = {{20, 19, 0}, {20, 20, 0}, {20, 21, 1}, {0, 0, 0}, {0, 1, 1}, {99, 99, 0}, {98, 99, 1}};
        for (int[] row : rows) {
            MoonTender x = CHECK.sea("sea 4;level " + row[0] + ";harbor h at 0 purse 0 depth " + row[1] + ";");
            String call = "height " + row[0] + ", depth " + row[1];
            CHECK.due(call, x.harbor(0, 5), row[2]);
            CHECK.due(call + " ahead", x.ahead(0, 48, 1), row[2]);
            CHECK.due(call + " counted", x.stranded(48, 0), row[2]);
            CHECK.due(call + " first", x.stranded(7, 1), row[2] == 1 ? 7 : -1);
        }
        MoonTender below = CHECK.sea("sea 4;level 0;" + MOON + HARBOR + "pull far-1;");
        CHECK.due("a height below 0", below.height(0, 0), -1);
        CHECK.due("strands by a depth of 0", below.harbor(0, 5), 1);
    }

    private static void brokenAtTheBeginning() {
        CHECK.says("(as all is at the HOUR's beginning)");
        MoonTender x = CHECK.sea("sea 4;" + MOON + "harbor h at 0 purse 5 depth 0;pays h m 3;earns 9;clause purse=5;");
        CHECK.due("the purse at the beginning of now", x.broken(0), 1);
        MoonTender y = CHECK.sea("sea 4;" + MOON + "harbor h at 0 purse 5 depth 0;pays h m 3;earns 9;clause purse=5+hour*6;");
        CHECK.due("and of every hour", y.broken(0), -1);
        MoonTender z = CHECK.sea("sea 4;moon m at 3 goes 1 temper 0;" + HARBOR + "pull 1-far;"
                + "clause hour=0 and height=20 or hour=1 and height=21 or hour=2 and height=20 or hour>2 and height>19;");
        CHECK.due("heights at the beginning", z.broken(0), 3);
    }

    private static void earnsBounds() {
        CHECK.says("its SUM, 0 .. 99 (below is 0, above 99; 0 without earns");
        int[] sums = {0, 1, 98, 99, 100, 101, 9999, -1, -98, -9999};
        for (int sum : sums) {
            MoonTender x = CHECK.sea("sea 4;harbor h at 0 purse 7 depth 0;earns " + (sum < 0 ? "0-" + -sum : "" + sum) + ";");
            int want = 7 + Math.max(0, Math.min(99, sum));
            CHECK.due("ahead by " + sum, x.ahead(0, 1, 0), want);
            x.hours(1);
            CHECK.due("earned by " + sum, x.harbor(0, 1), want);
        }
        MoonTender none = CHECK.sea("sea 4;harbor h at 0 purse 7 depth 0;");
        none.hours(200);
        CHECK.due("without earns", none.harbor(0, 1), 7);
    }

    private static void earnsByThePurse() {
        CHECK.says("by the purse it has then");
        MoonTender x = CHECK.sea("sea 4;harbor h at 0 purse 1 depth 0;harbor i at 1 purse 3 depth 0;earns purse;");
        x.hours(1);
        CHECK.due("h after an hour", x.harbor(0, 1), 2);
        CHECK.due("i after an hour", x.harbor(1, 1), 6);
        x.hours(5);
        CHECK.due("h after six", x.harbor(0, 1), 64);
        CHECK.due("i after six, 99 an hour at most", x.harbor(1, 1), 96 + 96);
    }

    private static void purseBounds() {
        CHECK.says("9999 at most in a purse, what is more is lost");
        MoonTender x = CHECK.sea("sea 4;" + MOON + HARBOR + "earns 1;");
        Check.withPurse(x, 0, 9997);
        int[] purses = {9998, 9999, 9999, 9999};
        for (int t = 0; t < purses.length; t++) {
            CHECK.due("ahead", x.ahead(0, t + 1, 0), purses[t]);
        }
        for (int purse : purses) {
            x.hours(1);
            CHECK.due("purse", x.harbor(0, 1), purse);
        }
        MoonTender y = CHECK.sea("sea 4;" + MOON + HARBOR + "pays h m 20;earns 99;");
        Check.withPurse(y, 0, 9950);
        y.hours(1);
        CHECK.due("lost ahead of paying", y.harbor(0, 1), 9979);
        Check.withPurse(y, 0, 9900);
        y.hours(1);
        CHECK.due("just full ahead of paying", y.harbor(0, 1), 9979);
        Check.withPurse(y, 0, 9899);
        y.hours(1);
        CHECK.due("one below that", y.harbor(0, 1), 9978);
        CHECK.due("coins in all", y.has(8), 9978);
    }

    private static void bidAndPurse() {
        CHECK.says("if its purse has its bid, it pays it, else that is DUE");
        int[][] rows = {{5, 4, 1, 0}, {5, 5, 0, 0}, {4, 5, 4, 5}, {0, 1, 0, 1}, {0, 0, 0, 0}, {20, 20, 0, 0}, {19, 20, 19, 20}};
        for (int[] row : rows) {
            MoonTender x = CHECK.sea("sea 4;" + MOON + "harbor h at 0 purse " + row[0] + " depth 0;pays h m " + row[1] + ";");
            x.hours(1);
            CHECK.due("purse " + row[0] + ", bid " + row[1] + ": purse then", x.harbor(0, 1), row[2]);
            CHECK.due("purse " + row[0] + ", bid " + row[1] + ": due then", x.bids(0, 0, 1), row[3]);
        }
    }

    private static void dueBounds() {
        CHECK.says("else that is DUE (9999 at most)");
        int[][] rows = {{9978, 9998}, {9979, 9999}, {9980, 9999}, {9999, 9999}};
        for (int[] row : rows) {
            MoonTender x = CHECK.sea("sea 4;" + MOON + HARBOR + "pays h m 20;");
            Check.withDue(x, 0, 0, row[0]);
            CHECK.due("ahead of " + row[0], x.ahead(0, 1, 2), row[1]);
            x.hours(1);
            CHECK.due("due after " + row[0], x.bids(0, 0, 1), row[1]);
        }
        MoonTender y = CHECK.sea("sea 4;moon m at 0 goes 0 temper 0;moon n at 0 goes 0 temper 0;moon o at 0 goes 0 temper 0;"
                + TWO + "pays h m 20;pays h n 20;pays h o 20;");
        for (int m = 0; m < 3; m++) {
            Check.withDue(y, 0, m, 9990);
        }
        y.hours(1);
        CHECK.due("of each moon", y.harbor(0, 4), 3 * 9999);
        CHECK.due("in all", y.has(9), 3 * 9999);
        y.hours(200);
        CHECK.due("of each moon, for ever", y.harbor(0, 4), 3 * 9999);
    }

    private static void dueAndPurse() {
        CHECK.says("then, if anything is DUE to that MOON from it and its purse has all of that, it pays that, too");
        int[][] rows = {{10, 3, 7, 0, 0}, {9, 3, 7, 6, 7}, {11, 3, 7, 1, 0}, {7, 0, 7, 0, 0}, {6, 0, 7, 6, 7},
            {2, 3, 0, 2, 3}, {2, 3, 2, 2, 5}, {9999, 0, 9999, 0, 0}, {9998, 0, 9999, 9998, 9999}, {0, 0, 0, 0, 0},
            {5, 5, 0, 0, 0}, {1, 0, 1, 0, 0}};
        for (int[] row : rows) {
            MoonTender x = CHECK.sea("sea 4;" + MOON + HARBOR + "pays h m " + row[1] + ";");
            Check.withPurse(x, 0, row[0]);
            Check.withDue(x, 0, 0, row[2]);
            x.hours(1);
            String call = "purse " + row[0] + ", bid " + row[1] + ", due " + row[2];
            CHECK.due(call + ": purse then", x.harbor(0, 1), row[3]);
            CHECK.due(call + ": due then", x.bids(0, 0, 1), row[4]);
        }
    }

    private static void harborByHarbor() {
        CHECK.says("Then HARBOR by HARBOR, MOON by MOON");
        String sea = "sea 4;moon m at 0 goes 0 temper 0;moon n at 0 goes 0 temper 0;" + TWO;
        MoonTender x = CHECK.sea(sea + "pays h m 4;pays h n 4;pays i n 4;");
        Check.withPurse(x, 0, 7);
        Check.withDue(x, 0, 0, 3);
        x.hours(1);
        CHECK.due("what is due to the first ahead of the second's bid", x.bids(0, 0, 1), 0);
        CHECK.due("nothing is left for the second", x.bids(0, 1, 1), 4);
        CHECK.due("purse", x.harbor(0, 1), 0);
        CHECK.due("the other harbor has nothing", x.bids(1, 1, 1), 4);
        MoonTender y = CHECK.sea(sea + "pays h m 9;pays h n 4;");
        Check.withPurse(y, 0, 5);
        y.hours(1);
        CHECK.due("too much for the first", y.bids(0, 0, 1), 9);
        CHECK.due("enough for the second", y.bids(0, 1, 1), 0);
        CHECK.due("purse", y.harbor(0, 1), 1);
    }

    private static void moonsGo() {
        CHECK.says("Then MOONS go");
        int[][] rows = {{4, 3, 0, 3}, {4, 3, 1, 0}, {4, 2, 1, 3}, {4, 0, 4, 0}, {4, 0, 3, 3}, {4, 3, 23, 2}, {4, 1, 23, 0},
            {24, 23, 23, 22}, {24, 1, 23, 0}, {24, 0, 23, 23}, {24, 23, 1, 0}, {23, 22, 23, 22}, {5, 4, 23, 2}};
        for (int[] row : rows) {
            MoonTender x = CHECK.sea("sea " + row[0] + ";moon m at " + row[1] + " goes " + row[2] + " temper 0;pull 9-far*9;");
            String call = "at " + row[1] + " of " + row[0] + " goes " + row[2];
            int high = x.height(row[3], 1);
            for (int p = 0; p < row[0]; p++) {
                CHECK.due(call + ": highest then", x.height(p, 1) <= high, true);
            }
            x.hours(1);
            CHECK.due(call, x.moon(0, 0), row[3]);
            x.hours(row[0] - 1);
            CHECK.due(call + ": all round", x.moon(0, 0), row[1]);
        }
    }

    private static void hourBounds() {
        CHECK.says("and the HOUR is one more (9999 at most; 0 at first)");
        MoonTender x = CHECK.sea("sea 4;" + MOON + HARBOR + "pays h m 1;");
        CHECK.due("at first", x.has(7), 0);
        x.hours(1);
        CHECK.due("one more", x.has(7), 1);
        x.storms(1);
        CHECK.due("one more", x.has(7), 2);
        Check.withHour(x, 9998);
        CHECK.due("to the last hour", x.hours(1), 9999);
        CHECK.due("the last hour", x.has(7), 9999);
        CHECK.refused("hours(1) at 9999", x, 3, -1, y -> y.hours(1));
        CHECK.due("the last hour still", x.has(7), 9999);
    }

    private static void actKinds() {
        CHECK.says("ACTS: a bid is another one; coins are given from HARBOR to HARBOR; a MOON's temper is another one; "
                + "HOURS go by; STORMS");
        Check.Call[] acts = {x -> x.bid(0, 0, 3), x -> x.give(1, 0, 1) ? 1 : 0, x -> x.soothe(0, 3), x -> x.hours(2),
            x -> x.storms(2), x -> x.bid(0, 0, 0), x -> x.soothe(0, 0)};
        for (int i = 0; i < acts.length; i++) {
            MoonTender x = CHECK.sea("sea 4;" + MOON + "harbor h at 0 purse 0 depth 0;harbor i at 1 purse 9 depth 0;pays h m 0;");
            String before = Check.all(x);
            CHECK.due("act " + i, acts[i].of(x) >= 0, true);
            CHECK.due("act " + i + " can be undone", x.has(10), 1);
            CHECK.due("act " + i + " is undone", x.undo(), true);
            x.seed(1);
            CHECK.same("act " + i + " undone", Check.all(x), before);
        }
    }

    private static void lastTwenty() {
        CHECK.says("The last 20 can be undone");
        for (int acts : new int[] {0, 1, 19, 20, 21, 40, 45}) {
            MoonTender x = CHECK.sea("sea 4;" + MOON + HARBOR);
            for (int i = 1; i <= acts; i++) {
                x.bid(0, 0, i % 21);
                CHECK.due("acts", x.has(10), Math.min(20, i));
            }
            int kept = Math.min(20, acts);
            for (int i = 0; i < kept; i++) {
                CHECK.due("undo " + i + " of " + acts, x.undo(), true);
                CHECK.due("bid ahead of it", x.bids(0, 0, 0), (acts - i - 1) % 21);
                CHECK.due("acts left", x.has(10), kept - i - 1);
            }
            CHECK.refused("undo of no act", x, 4, 0, y -> y.undo() ? 1 : 0);
            CHECK.due("what the oldest of them left", x.bids(0, 0, 0), (acts - kept) % 21);
        }
        MoonTender x = CHECK.sea("sea 4;" + MOON + HARBOR);
        for (int i = 1; i <= 20; i++) {
            x.bid(0, 0, i);
        }
        x.undo();
        x.undo();
        x.hours(1);
        x.soothe(0, 9);
        CHECK.due("twenty again", x.has(10), 20);
        for (int i = 0; i < 20; i++) {
            CHECK.due("undo", x.undo(), true);
        }
        CHECK.due("none is left", x.undo(), false);
        CHECK.due("all as at first", x.bids(0, 0, 0) + x.moon(0, 2) + x.has(7), 0);
    }

    /** The tempers and the seed that so many STORMS leave, by the document's words. */
    private static long[] stormed(long seed, int moons, int hours) {
        long[] left = new long[moons + 1];
        long x = seed;
        for (int i = 0; i < hours && moons > 0; i++) {
            x = (1103515245L * x + 12345) % (1L << 31);
            int moon = (int) (x / 64 % moons);
            x = (1103515245L * x + 12345) % (1L << 31);
            left[moon] = x / 64 % 10;
        }
        left[moons] = x;
        return left;
    }

    private static void draws() {
        CHECK.says("A DRAW of m: x (the seed) becomes (1103515245 x + 12345) mod 2 to the 31; floor(x / 64) mod m");
        for (int moons = 1; moons <= 3; moons++) {
            for (int hours : new int[] {1, 2, 7, 100}) {
                StringBuilder sea = new StringBuilder("sea 4;");
                for (int m = 0; m < moons; m++) {
                    sea.append("moon ").append((char) ('a' + m)).append(" at 0 goes 0 temper 0;");
                }
                MoonTender x = CHECK.sea(sea.toString());
                x.storms(hours);
                long[] want = stormed(1, moons, hours);
                for (int m = 0; m < moons; m++) {
                    CHECK.due("temper of " + m + " after " + hours, x.moon(m, 2), want[m]);
                }
                CHECK.due("seed after " + hours, x.has(11), want[moons]);
                CHECK.due("one act", x.has(10), 1);
            }
        }
    }

    private static void drawSeeds() {
        CHECK.says("x (the seed) becomes");
        int[] seeds = {0, 1, 63, 64, 65, 1 << 30, Integer.MAX_VALUE - 1, Integer.MAX_VALUE};
        for (int seed : seeds) {
            MoonTender x = CHECK.sea("sea 4;moon a at 0 goes 0 temper 0;moon b at 0 goes 0 temper 0;moon c at 0 goes 0 temper 0;");
            x.seed(seed);
            x.storms(1);
            long[] want = stormed(seed, 3, 1);
            for (int m = 0; m < 3; m++) {
                CHECK.due("temper of " + m + " by seed " + seed, x.moon(m, 2), want[m]);
            }
            CHECK.due("seed after " + seed, x.has(11), want[3]);
        }
    }

    private static void stormsWithoutMoons() {
        CHECK.says("(without MOONS none)");
        MoonTender x = CHECK.sea("sea 4;" + HARBOR + "earns 1;");
        x.seed(5);
        CHECK.due("storms(100)", x.storms(100), 100);
        CHECK.due("no draw", x.has(11), 5);
        CHECK.due("but hours went by", x.harbor(0, 1), 100);
        CHECK.due("and it is an act", x.has(10), 1);
    }
}
