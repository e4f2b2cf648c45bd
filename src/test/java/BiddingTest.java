/** Promises 23 and 24: WISHED and REST. */
public final class BiddingTest {
    private static final Check CHECK = new Check();
    private static final String MOON = "sea 4;moon m at 0 goes 0 temper 0;";
    private static final String HARBORS = "harbor h at 0 purse 0 depth 0;harbor i at 2 purse 0 depth 0;";
    /** Pulls on the MOON's PLACE alone: HEIGHT there is 20 and paid, less a fourth of it, rounded up. */
    private static final String HERE = "pull paid*(1-min(1,far));";
    /** Lifts the MOON's PLACE by what is paid, lowers the one across; the ones between stay. */
    private static final String SEESAW = "pull paid*(1-far);";

    public static void main(String[] args) {
        promise23();
        promise23Likes();
        promise23Changes();
        promise24();
        promise24Likes();
        promise24Ends();
        CHECK.finish("BiddingTest");
    }

    private static void promise23() {
        MoonTender x = CHECK.sea(MOON + HARBORS + "pays h m 9;" + HERE);
        int[] heights = {20, 21, 22, 23, 24, 25, 26, 27, 28, 999, -999};
        int[] least = {0, 2, 3, 4, 6, 7, 8, 10, -1, -1, 0};
        for (int i = 0; i < heights.length; i++) {
            CHECK.due("wished(0, " + heights[i] + ", -1)", x.wished(0, heights[i], -1), least[i]);
            CHECK.due("wished(0, " + heights[i] + ", 0)", x.wished(0, heights[i], 0), least[i]);
        }
        int[][] none = {{0, 1000, -1}, {0, -1000, -1}, {0, 20, 1}, {0, 20, -2}, {2, 20, -1}, {-1, 20, -1},
            {0, Integer.MIN_VALUE, -1}, {0, 20, Integer.MAX_VALUE}};
        for (int[] n : none) {
            CHECK.due("wished(" + n[0] + ", " + n[1] + ", " + n[2] + ")", x.wished(n[0], n[1], n[2]), -1);
        }
        CHECK.due("the bid is as it was", x.bids(0, 0, 0), 9);
        CHECK.due("no act was done", x.has(10), 0);
        MoonTender others = CHECK.sea(MOON + HARBORS + "pays i m 4;pays h m 20;" + HERE);
        CHECK.due("what others bid counts", others.wished(0, 23, -1), 0);
        CHECK.due("what others bid counts", others.wished(0, 24, -1), 2);
        CHECK.due("a place away from the moon", others.wished(1, 20, -1), -1);
        CHECK.due("a place away from the moon", others.wished(1, 15, -1), 0);
        MoonTender still = CHECK.sea("sea 4;" + HARBORS);
        CHECK.due("without moons", still.wished(0, 20, -1), 0);
        CHECK.due("without moons, more", still.wished(0, 21, -1), -1);
        CHECK.due("without moons, k 0", still.wished(0, 20, 0), -1);
        // The height at 0 is 20 and what m is bid less what n and o are bid: 5 and what h adds, less 3.
        MoonTender rivals = CHECK.sea(MOON + "moon n at 1 goes 0 temper 0;moon o at 3 goes 0 temper 0;" + HARBORS
                + "pays i m 5;pays i n 1;pays i o 2;pull (paid-rival)*(1-far);");
        CHECK.due("with rivals' bids", rivals.height(0, 0), 22);
        CHECK.due("with rivals' bids", rivals.wished(0, 22, -1), 0);
        CHECK.due("with rivals' bids", rivals.wished(0, 25, -1), 3);
        CHECK.due("with rivals' bids", rivals.wished(0, 25, 0), 3);
        CHECK.due("with rivals' bids", rivals.wished(0, 25, 2), 0);
    }

    private static void wished(String sea, int height, int... want) {
        MoonTender x = CHECK.sea(sea);
        int sum = 0;
        for (int k = 0; k < want.length; k++) {
            CHECK.due("wished(0, " + height + ", " + k + ") of <" + sea + ">", x.wished(0, height, k), want[k]);
            sum += want[k];
        }
        CHECK.due("wished(0, " + height + ", -1) of <" + sea + ">", x.wished(0, height, -1), sum);
    }

    private static void promise23Likes() {
        String two = MOON + "moon n at 0 goes 0 temper 0;";
        String three = two + "moon o at 0 goes 0 temper 0;";
        wished(two + HARBORS + HERE, 21, 0, 2);
        wished(two + HARBORS + HERE, 27, 0, 10);
        wished(two + HARBORS + HERE, 28, 1, 10);
        wished(three + HARBORS + HERE, 21, 0, 0, 2);
        wished(three + HARBORS + HERE, 31, 0, 5, 10);
        wished(three + HARBORS + HERE, 42, 10, 10, 10);
        wished(two + HARBORS + "pull (paid*3-rival)*(1-far);", 26, 0, 3);
        wished(MOON + "moon n at 2 goes 0 temper 0;" + HARBORS + SEESAW, 23, 3, 0);
    }

    private static void promise23Changes() {
        MoonTender x = CHECK.sea(MOON + HARBORS + HERE);
        CHECK.due("first", x.wished(0, 23, -1), 4);
        x.bid(1, 0, 3);
        CHECK.due("after another's bid", x.wished(0, 23, -1), 1);
        x.undo();
        CHECK.due("undone", x.wished(0, 23, -1), 4);
        CHECK.due("of another harbor", x.wished(1, 20, -1), 0);
        CHECK.due("of the first again", x.wished(0, 23, 0), 4);
        Check.sea(x, MOON + HARBORS + SEESAW);
        CHECK.due("in another sea", x.wished(0, 23, -1), 3);
    }

    private static void rest(String sea, int round, int... bids) {
        MoonTender x = CHECK.sea(sea);
        CHECK.due("rest(-1) of <" + sea + ">", x.rest(-1), round);
        int moons = x.has(1);
        for (int i = 0; i < bids.length; i++) {
            int k = i / moons * 10 + i % moons;
            CHECK.due("rest(" + k + ") of <" + sea + ">", x.rest(k), bids[i]);
        }
    }

    private static void promise24() {
        String strong = "pull paid*4*(1-min(1,far));";
        rest(MOON + HARBORS + strong, 2, 4, 0);
        rest(MOON + HARBORS + "pays h m 4;" + strong, 1, 4, 0);
        rest(MOON + HARBORS + "pays h m 20;pays i m 7;" + strong, 2, 4, 0);
        rest(MOON + HARBORS + HERE, 1, 0, 0);
        rest(MOON + HARBORS + "pays h m 3;" + HERE, 2, 0, 0);
        rest(MOON + "moon n at 2 goes 0 temper 0;" + HARBORS + strong, 2, 4, 0, 0, 4);
        MoonTender x = CHECK.sea(MOON + HARBORS + "pays h m 1;" + strong);
        for (int k : new int[] {-2, 1, 2, 9, 11, 20, 100, Integer.MAX_VALUE, Integer.MIN_VALUE}) {
            CHECK.due("rest(" + k + ")", x.rest(k), -1);
        }
        CHECK.due("rest(0)", x.rest(0), 4);
        CHECK.due("the bids are as they were", x.bids(0, 0, 0), 1);
        CHECK.due("no act was done", x.has(10), 0);
        x.bid(0, 0, 4);
        CHECK.due("after that bid it rests at once", x.rest(-1), 1);
        x.undo();
        CHECK.due("undone", x.rest(-1), 2);
        CHECK.due("without a sea", new MoonTender().rest(0), -1);
    }

    private static void promise24Likes() {
        rest(MOON + HARBORS + "pays h m 3;" + SEESAW, 1, 3, 0);
        rest(MOON + HARBORS + "pays h m 4;" + SEESAW, 1, 4, 0);
        rest(MOON + HARBORS + "pays h m 5;" + SEESAW, 2, 0, 0);
        rest(MOON + HARBORS + "pays i m 1;" + SEESAW, 2, 0, 0);
        String two = MOON + "moon n at 0 goes 0 temper 0;";
        rest(two + HARBORS + "pays h n 9;pull min(paid,2)*2*(1-far);", 2, 2, 2, 0, 0);
        rest(two + HARBORS + "pull (min(paid+rival,3)*3)*(1-far);", 2, 0, 3, 0, 0);
        rest(two + HARBORS + "pays h m 2;pays h n 1;pull (min(paid+rival,3)*3)*(1-far);", 1, 2, 1, 0, 0);
    }

    private static void promise24Ends() {
        // The one wants an odd sum, the other an even one: 1 and 1, then 0 and 0, on and on.
        rest(MOON + HARBORS + "pull (paid%2)*8*(1-far);", 13, 0, 0);
        rest(MOON, 1);
        MoonTender x = CHECK.sea(MOON);
        CHECK.due("no harbor: rest(0)", x.rest(0), -1);
        MoonTender y = CHECK.sea("sea 4;" + HARBORS);
        CHECK.due("no moon: rest(-1)", y.rest(-1), 1);
        CHECK.due("no moon: rest(0)", y.rest(0), -1);
    }
}
