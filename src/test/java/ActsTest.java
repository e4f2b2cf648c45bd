/** Promises 16 to 22: bids, gifts, tempers, HOURS, STORMS, what is undone, the seed. */
public final class ActsTest {
    private static final Check CHECK = new Check();
    private static final String SEA = "sea 4;moon m at 0 goes 1 temper 4;moon n at 3 goes 5 temper 0;"
            + "harbor h at 0 purse 5 depth 0;harbor i at 2 purse 40 depth 0;pays h m 3;pays i n 1;";
    private static final int LOW = Integer.MIN_VALUE;
    private static final int HIGH = Integer.MAX_VALUE;

    public static void main(String[] args) {
        promise16();
        promise17();
        promise18();
        promise19();
        promise19Dues();
        promise19Ends();
        promise20();
        promise21();
        promise22();
        CHECK.finish("ActsTest");
    }

    private static void refused(MoonTender x, String call, String before, int status, int want) {
        CHECK.due("status(" + status + ") after " + call, x.status(status), want);
        CHECK.same(call, Check.all(x), before);
    }

    private static void promise16() {
        MoonTender x = CHECK.sea(SEA);
        CHECK.due("bid(0, 0, 20)", x.bid(0, 0, 20), 3);
        CHECK.due("bid(0, 0, 0)", x.bid(0, 0, 0), 20);
        CHECK.due("bid(1, 0, 7)", x.bid(1, 0, 7), 0);
        CHECK.due("bids", x.bids(1, 0, 0), 7);
        CHECK.due("others' bids", x.bids(1, 1, 0), 1);
        CHECK.due("what all bid", x.moon(0, 3), 7);
        CHECK.due("acts", x.has(10), 3);
        CHECK.due("bid(1, 0, 7) again is an act", x.bid(1, 0, 7), 7);
        CHECK.due("acts", x.has(10), 4);
        int[][] bad = {{0, 0, 21}, {0, 0, -1}, {2, 0, 1}, {-1, 0, 1}, {0, 2, 1}, {0, -1, 1}, {0, 0, HIGH}, {LOW, 0, 1}};
        String before = Check.all(x);
        for (int i = 0; i < bad.length; i++) {
            String call = "bid(" + bad[i][0] + ", " + bad[i][1] + ", " + bad[i][2] + ")";
            CHECK.due(call, x.bid(bad[i][0], bad[i][1], bad[i][2]), -1);
            refused(x, call, before, 2, i + 1);
        }
        MoonTender none = new MoonTender();
        CHECK.due("bid without a sea", none.bid(0, 0, 0), -1);
        CHECK.due("status(2)", none.status(2), 1);
    }

    private static void promise17() {
        MoonTender x = CHECK.sea(SEA);
        CHECK.due("give(1, 0, 1)", x.give(1, 0, 1), true);
        CHECK.due("purse of the one", x.harbor(1, 1), 39);
        CHECK.due("purse of the other", x.harbor(0, 1), 6);
        CHECK.due("all of it", x.give(0, 1, 6), true);
        CHECK.due("acts", x.has(10), 2);
        CHECK.due("coins", x.has(8), 45);
        int[][] bad = {{0, 1, 1}, {1, 0, 46}, {1, 0, 0}, {1, 0, -1}, {1, 1, 1}, {2, 0, 1}, {1, 2, 1}, {-1, 0, 1},
            {1, -1, 1}, {1, 0, HIGH}, {1, 0, LOW}};
        String before = Check.all(x);
        for (int i = 0; i < bad.length; i++) {
            String call = "give(" + bad[i][0] + ", " + bad[i][1] + ", " + bad[i][2] + ")";
            CHECK.due(call, x.give(bad[i][0], bad[i][1], bad[i][2]), false);
            refused(x, call, before, 2, i + 1);
        }
        MoonTender y = CHECK.sea("sea 4;harbor h at 0 purse 0 depth 0;harbor i at 1 purse 0 depth 0;");
        Check.on(y, Check.image(0, 0, 9990 >> 8, 9990 & 255, 0, 50));
        CHECK.due("more than 9999", y.give(1, 0, 10), false);
        CHECK.due("status(2)", y.status(2), 1);
        CHECK.due("just 9999", y.give(1, 0, 9), true);
        CHECK.due("purse", y.harbor(0, 1), 9999);
    }

    private static void promise18() {
        MoonTender x = CHECK.sea(SEA);
        CHECK.due("soothe(0, 9)", x.soothe(0, 9), 4);
        CHECK.due("soothe(0, 0)", x.soothe(0, 0), 9);
        CHECK.due("soothe(1, 5)", x.soothe(1, 5), 0);
        CHECK.due("temper of 0", x.moon(0, 2), 0);
        CHECK.due("temper of 1", x.moon(1, 2), 5);
        CHECK.due("acts", x.has(10), 3);
        int[][] bad = {{0, 10}, {0, -1}, {2, 1}, {-1, 1}, {0, HIGH}, {LOW, 1}};
        String before = Check.all(x);
        for (int i = 0; i < bad.length; i++) {
            String call = "soothe(" + bad[i][0] + ", " + bad[i][1] + ")";
            CHECK.due(call, x.soothe(bad[i][0], bad[i][1]), -1);
            refused(x, call, before, 2, i + 1);
        }
    }

    private static void promise19() {
        MoonTender x = CHECK.sea(SEA);
        CHECK.due("hours(1)", x.hours(1), 1);
        CHECK.due("moon 0 went", x.moon(0, 0), 1);
        CHECK.due("moon 1 went round", x.moon(1, 0), 0);
        CHECK.due("purse of h", x.harbor(0, 1), 2);
        CHECK.due("purse of i", x.harbor(1, 1), 39);
        CHECK.due("hours(200)", x.hours(200), 201);
        CHECK.due("acts", x.has(10), 2);
        CHECK.due("purse of i ran out", x.harbor(1, 1), 0);
        CHECK.due("due of i", x.bids(1, 1, 1), 201 - 40);
        CHECK.due("due of h", x.bids(0, 0, 1), 600);
        int[] bad = {0, -1, 201, HIGH, LOW};
        String before = Check.all(x);
        for (int i = 0; i < bad.length; i++) {
            CHECK.due("hours(" + bad[i] + ")", x.hours(bad[i]), -1);
            refused(x, "hours(" + bad[i] + ")", before, 3, i + 1);
        }
        MoonTender none = new MoonTender();
        CHECK.due("hours without a sea", none.hours(1), -1);
        CHECK.due("status(3)", none.status(3), 1);
        MoonTender empty = CHECK.sea("sea 4;");
        CHECK.due("hours of an empty sea", empty.hours(7), 7);
    }

    private static void promise19Dues() {
        MoonTender x = CHECK.sea(SEA);
        x.hours(3);
        CHECK.due("due twice", x.bids(0, 0, 1), 6);
        CHECK.due("the purse is kept", x.harbor(0, 1), 2);
        x.give(1, 0, 6);
        x.hours(1);
        CHECK.due("8 pays the bid of 3, not 6 that is due", x.harbor(0, 1), 5);
        CHECK.due("due stays", x.bids(0, 0, 1), 6);
        x.give(1, 0, 4);
        x.hours(1);
        CHECK.due("9 pays 3 and 6", x.harbor(0, 1), 0);
        CHECK.due("nothing is due", x.bids(0, 0, 1), 0);
        MoonTender y = CHECK.sea(SEA.replace("pays i n 1", "pays h n 4"));
        y.hours(1);
        CHECK.due("moon by moon: 3 of 5 paid", y.harbor(0, 1), 2);
        CHECK.due("4 due", y.bids(0, 1, 1), 4);
        y.bid(0, 1, 0);
        y.bid(0, 0, 0);
        y.hours(1);
        CHECK.due("2 do not pay what is due", y.bids(0, 1, 1), 4);
        MoonTender w = CHECK.sea("sea 4;moon m at 0 goes 0 temper 0;harbor h at 0 purse 0 depth 0;pays h m 1;earns hour;");
        w.hours(1);
        CHECK.due("one is due", w.bids(0, 0, 1), 1);
        w.bid(0, 0, 0);
        w.hours(1);
        CHECK.due("and one pays it", w.bids(0, 0, 1), 0);
        CHECK.due("and none is left", w.harbor(0, 1), 0);
        y.give(1, 0, 2);
        y.hours(1);
        CHECK.due("4 do, without a bid", y.bids(0, 1, 1), 0);
        CHECK.due("the purse is empty", y.harbor(0, 1), 0);
        MoonTender z = CHECK.sea("sea 4;moon m at 0 goes 0 temper 0;harbor h at 0 purse 0 depth 0;pays h m 6;earns 4;");
        z.hours(1);
        CHECK.due("a bid beyond the purse is due whole", z.bids(0, 0, 1), 6);
        CHECK.due("what was earned stays", z.harbor(0, 1), 4);
        z.hours(1);
        CHECK.due("earned ahead of paying: 8 pay 6, not 6 more", z.harbor(0, 1), 2);
        z.hours(1);
        CHECK.due("6 pay the bid", z.harbor(0, 1), 0);
        CHECK.due("6 are due", z.bids(0, 0, 1), 6);
    }

    private static void promise19Ends() {
        MoonTender x = CHECK.sea("sea 4;moon m at 0 goes 1 temper 0;harbor h at 0 purse 0 depth 0;");
        Check.on(x, Check.image(9990 >> 8, 9990 & 255, 1, 0, 0, 0, 20, 9985 >> 8, 9985 & 255));
        CHECK.due("beyond 9999", x.hours(10), -1);
        CHECK.due("storms beyond 9999", x.storms(10), -1);
        CHECK.due("status(3)", x.status(3), 2);
        CHECK.due("up to 9999", x.hours(9), 9999);
        CHECK.due("due is 9999 at most", x.bids(0, 0, 1), 9999);
        CHECK.due("no more", x.hours(1), -1);
        CHECK.due("no more storms", x.storms(1), -1);
        CHECK.due("status(3)", x.status(3), 4);
    }

    private static void promise20() {
        String three = "sea 4;moon a at 0 goes 1 temper 5;moon b at 0 goes 2 temper 5;moon c at 0 goes 3 temper 5;";
        MoonTender x = CHECK.sea(three);
        CHECK.due("storms(1)", x.storms(1), 1);
        CHECK.due("seed after two draws", x.has(11), 377401575);
        CHECK.due("temper of a", x.moon(0, 2), 5);
        CHECK.due("temper of b", x.moon(1, 2), 9);
        CHECK.due("temper of c", x.moon(2, 2), 5);
        CHECK.due("storms(2)", x.storms(2), 3);
        CHECK.due("seed after six draws", x.has(11), 368800899);
        CHECK.due("temper of c by the last storm", x.moon(2, 2), 4);
        CHECK.due("moons went", x.moon(2, 0), 1);
        CHECK.due("each is one act", x.has(10), 2);
        int[] bad = {0, -1, 101, HIGH, LOW};
        String before = Check.all(x);
        for (int i = 0; i < bad.length; i++) {
            CHECK.due("storms(" + bad[i] + ")", x.storms(bad[i]), -1);
            refused(x, "storms(" + bad[i] + ")", before, 3, i + 1);
        }
        CHECK.due("storms(100)", x.storms(100), 103);
        MoonTender y = CHECK.sea("sea 4;level 20;moon m at 0 goes 0 temper 0;harbor h at 0 purse 0 depth 0;"
                + "pull temper*(1-min(1,far));earns height-20;");
        y.storms(1);
        CHECK.due("the storm comes ahead of the hour", y.harbor(0, 1), 6);
        CHECK.due("height as the storm left it", y.height(0, 0), 26);
        y.storms(1);
        CHECK.due("height as the next storm left it", y.height(0, 0), 20);
        MoonTender z = CHECK.sea("sea 4;");
        CHECK.due("storms without moons", z.storms(5), 5);
        CHECK.due("draw nothing", z.has(11), 1);
        MoonTender none = new MoonTender();
        CHECK.due("storms without a sea", none.storms(1), -1);
        CHECK.due("status(3)", none.status(3), 1);
    }

    private static void promise21() {
        MoonTender x = CHECK.sea(SEA);
        CHECK.due("undo of nothing", x.undo(), false);
        CHECK.due("status(4)", x.status(4), 1);
        String first = Check.all(x);
        x.bid(0, 0, 9);
        x.give(1, 0, 3);
        x.soothe(1, 8);
        x.hours(5);
        String fourth = Check.all(x);
        x.seed(1);
        x.storms(3);
        int seed = x.has(11);
        CHECK.due("undo of storms", x.undo(), true);
        CHECK.due("the seed stays", x.has(11), seed);
        x.seed(1);
        CHECK.same("undo of storms", Check.all(x), fourth);
        for (int i = 0; i < 4; i++) {
            CHECK.due("undo", x.undo(), true);
        }
        CHECK.same("undo of all", Check.all(x), first);
        CHECK.due("no more", x.undo(), false);
        for (int i = 0; i < 21; i++) {
            x.bid(0, 0, i % 21);
        }
        CHECK.due("the last 20", x.has(10), 20);
        for (int i = 20; i > 0; i--) {
            CHECK.due("undo " + i, x.undo(), true);
            CHECK.due("bid before it", x.bids(0, 0, 0), i - 1);
            CHECK.due("acts left", x.has(10), i - 1);
        }
        CHECK.due("no more", x.undo(), false);
        CHECK.due("status(4)", x.status(4), 3);
        CHECK.due("the first one stays done", x.bids(0, 0, 0), 0);
        x.bid(0, 0, 21);
        CHECK.due("a refused act can't be undone", x.has(10), 0);
    }

    private static void promise22() {
        MoonTender x = new MoonTender();
        for (int n : new int[] {0, 1, 64, HIGH}) {
            CHECK.due("seed(" + n + ")", x.seed(n), true);
            CHECK.due("has(11)", x.has(11), n);
        }
        CHECK.due("seed(-1)", x.seed(-1), false);
        CHECK.due("seed(least)", x.seed(LOW), false);
        CHECK.due("status(5)", x.status(5), 2);
        CHECK.due("it stays", x.has(11), HIGH);
        MoonTender y = CHECK.sea(SEA);
        y.seed(HIGH);
        y.storms(1);
        long first = (1103515245L * HIGH + 12345L) % (1L << 31);
        long second = (1103515245L * first + 12345L) % (1L << 31);
        CHECK.due("drawn from the most", y.has(11), second);
        CHECK.due("its moon's temper", y.moon((int) (first / 64 % 2), 2), second / 64 % 10);
        CHECK.due("the seed is no act", y.has(10), 1);
    }
}
