/** Promises 6 to 10: what there is, NAMES, MOONS, HARBORS, bids. */
public final class StateTest {
    private static final Check CHECK = new Check();
    private static final String SEA = "sea 6;level 10;sulk 5;"
            + "moon sol at 0 goes 1 temper 3;moon abcdef at 2 goes 23 temper 0;"
            + "harbor ayr at 1 purse 7 depth 9;harbor z at 4 purse 100 depth 12;harbor cam at 0 purse 0 depth 0;"
            + "pays ayr sol 3;pays ayr abcdef 5;pays z sol 2;"
            + "owes ayr z 12;owes z cam 90;owes ayr z 3;owes cam ayr 1;clause all;clause 1<2;";

    public static void main(String[] args) {
        promise6();
        promise7();
        promise8();
        promise9();
        promise9Banks();
        promise10();
        CHECK.finish("StateTest");
    }

    private static void rows(String call, int[] got, int... want) {
        for (int i = 0; i < want.length; i++) {
            CHECK.due(call + " what " + i, got[i], want[i]);
        }
    }

    private static int[] has(MoonTender x) {
        int[] row = new int[12];
        for (int i = 0; i < row.length; i++) {
            row[i] = x.has(i);
        }
        return row;
    }

    private static int[] moon(MoonTender x, int m) {
        int[] row = new int[6];
        for (int i = 0; i < row.length; i++) {
            row[i] = x.moon(m, i);
        }
        return row;
    }

    private static int[] harbor(MoonTender x, int h) {
        int[] row = new int[10];
        for (int i = 0; i < row.length; i++) {
            row[i] = x.harbor(h, i);
        }
        return row;
    }

    private static void promise6() {
        MoonTender x = CHECK.sea(SEA);
        rows("has", has(x), 6, 2, 3, 4, 2, 10, 5, 0, 107, 0, 0, 1);
        x.seed(123456789);
        x.hours(1);
        rows("has after an hour", has(x), 6, 2, 3, 4, 2, 10, 5, 1, 102, 5, 1, 123456789);
        for (int what : new int[] {-1, 12, Integer.MAX_VALUE, Integer.MIN_VALUE}) {
            CHECK.due("has(" + what + ")", x.has(what), -1);
        }
    }

    private static void promise7() {
        MoonTender x = CHECK.sea(SEA);
        int[] sol = {19, 15, 12, 0, 0, 0};
        int[] z = {26, 0, 0, 0, 0, 0};
        for (int k = 0; k < 6; k++) {
            CHECK.due("letter(0, 0, " + k + ")", x.letter(0, 0, k), sol[k]);
            CHECK.due("letter(0, 1, " + k + ")", x.letter(0, 1, k), k + 1);
            CHECK.due("letter(1, 1, " + k + ")", x.letter(1, 1, k), z[k]);
        }
        int[][] none = {{0, 0, 6}, {0, 0, -1}, {1, 1, 6}, {0, 2, 0}, {0, -1, 0}, {1, 3, 0}, {1, -1, 0}, {2, 0, 0},
            {-1, 0, 0}, {0, 0, Integer.MAX_VALUE}, {0, Integer.MIN_VALUE, 0}};
        for (int[] n : none) {
            CHECK.due("letter(" + n[0] + ", " + n[1] + ", " + n[2] + ")", x.letter(n[0], n[1], n[2]), -1);
        }
    }

    private static void promise8() {
        MoonTender x = CHECK.sea(SEA);
        rows("moon 0", moon(x, 0), 0, 1, 3, 5, 0, 0);
        rows("moon 1", moon(x, 1), 2, 23, 0, 5, 0, 0);
        rows("moon 2", moon(x, 2), -1, -1, -1, -1, -1, -1);
        rows("moon -1", moon(x, -1), -1, -1, -1, -1, -1, -1);
        CHECK.due("moon(0, 6)", x.moon(0, 6), -1);
        CHECK.due("moon(0, -1)", x.moon(0, -1), -1);
        x.hours(1);
        rows("moon 0 after an hour", moon(x, 0), 1, 1, 3, 5, 0, 0);
        rows("moon 1 after an hour, due as much as sulk", moon(x, 1), 1, 23, 0, 5, 5, 1);
        x.undo();
        x.bid(0, 1, 7);
        x.bid(0, 0, 7);
        x.hours(1);
        rows("moon 1 due more", moon(x, 1), 1, 23, 0, 7, 7, 1);
        MoonTender y = CHECK.sea(SEA.replace("sulk 5", "sulk 6"));
        y.hours(1);
        rows("moon 1 due less than sulk", moon(y, 1), 1, 23, 0, 5, 5, 0);
    }

    private static void promise9() {
        MoonTender x = CHECK.sea(SEA);
        rows("harbor 0", harbor(x, 0), 1, 7, 9, 8, 0, 0, 15, 1, 1, 7);
        rows("harbor 1", harbor(x, 1), 4, 100, 12, 2, 0, 1, 90, 15, 0, 0);
        rows("harbor 2", harbor(x, 2), 0, 0, 0, 0, 0, 0, 1, 90, 0, 0);
        rows("harbor 3", harbor(x, 3), -1, -1, -1, -1, -1, -1, -1, -1, -1, -1);
        CHECK.due("harbor(-1, 0)", x.harbor(-1, 0), -1);
        CHECK.due("harbor(0, 10)", x.harbor(0, 10), -1);
        CHECK.due("harbor(0, -1)", x.harbor(0, -1), -1);
        x.hours(1);
        rows("harbor 0 after an hour", harbor(x, 0), 1, 4, 9, 8, 5, 0, 15, 1, 1, 10);
        MoonTender y = CHECK.sea(SEA.replace("level 10", "level 12"));
        CHECK.due("a height as much as the depth", y.harbor(1, 5), 0);
    }

    private static void promise9Banks() {
        String three = "sea 4;harbor a at 0 purse 0 depth 0;harbor b at 1 purse 0 depth 0;harbor c at 2 purse 0 depth 0;";
        MoonTender x = CHECK.sea(three + "owes a b 10;owes b c 5;owes c a 3;");
        for (int h = 0; h < 3; h++) {
            CHECK.due("one after the other fails: " + h, x.harbor(h, 8), 1);
        }
        CHECK.due("help of a", x.harbor(0, 9), 7);
        CHECK.due("help of b", x.harbor(1, 9), 0);
        CHECK.due("help of c", x.harbor(2, 9), 0);
        MoonTender y = CHECK.sea(three.replace("purse 0 depth 0;harbor b", "purse 7 depth 0;harbor b")
                + "owes a b 10;owes b c 5;owes c a 3;");
        for (int h = 0; h < 3; h++) {
            CHECK.due("with its help nobody fails: " + h, y.harbor(h, 8), 0);
        }
        MoonTender z = CHECK.sea(three + "owes a b 10;owes c b 10;owes b c 9;");
        CHECK.due("a fails", z.harbor(0, 8), 1);
        CHECK.due("b is owed 10 by c, who is owed 9", z.harbor(1, 8), 1);
        CHECK.due("c lacks one", z.harbor(2, 9), 1);
        CHECK.due("c fails", z.harbor(2, 8), 1);
        MoonTender v = CHECK.sea(three + "owes a b 10;owes c b 9;owes b c 9;");
        CHECK.due("a fails alone: b", v.harbor(1, 8), 0);
        CHECK.due("a fails alone: c", v.harbor(2, 8), 0);
    }

    private static void promise10() {
        MoonTender x = CHECK.sea(SEA);
        int[][] bids = {{3, 5}, {2, 0}, {0, 0}};
        for (int h = 0; h < 3; h++) {
            for (int m = 0; m < 2; m++) {
                CHECK.due("bids(" + h + ", " + m + ", 0)", x.bids(h, m, 0), bids[h][m]);
                CHECK.due("bids(" + h + ", " + m + ", 1)", x.bids(h, m, 1), 0);
            }
        }
        x.hours(2);
        CHECK.due("due of harbor 0 to moon 1", x.bids(0, 1, 1), 10);
        CHECK.due("due of harbor 0 to moon 0", x.bids(0, 0, 1), 0);
        int[][] none = {{3, 0, 0}, {-1, 0, 0}, {0, 2, 0}, {0, -1, 0}, {0, 0, 2}, {0, 0, -1}};
        for (int[] n : none) {
            CHECK.due("bids(" + n[0] + ", " + n[1] + ", " + n[2] + ")", x.bids(n[0], n[1], n[2]), -1);
        }
    }
}
