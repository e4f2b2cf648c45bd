/** Promises 11 to 15: PULLS, HEIGHTS, what is AHEAD, BROKEN and STRANDED; and the language of SUMS and TESTS. */
public final class HeightsTest {
    private static final Check CHECK = new Check();
    private static final int NOTHING = -1000000000;
    private static final String TWO = "sea 6;level 10;moon m at 0 goes 1 temper 7;moon n at 2 goes 2 temper 3;"
            + "harbor h at 1 purse 9 depth 5;harbor i at 4 purse 0 depth 11;pays h m 4;pays h n 1;pays i m 2;";
    private static final String ONE = "sea 6;level 10;moon m at 0 goes 1 temper 0;harbor h at 0 purse 99 depth 10;"
            + "pays h m 5;";

    public static void main(String[] args) {
        sums();
        promise11();
        promise12();
        promise12Limits();
        promise13();
        earnings();
        tests();
        promise14();
        promise15();
        CHECK.finish("HeightsTest");
    }

    private static void sum(String sum, int want) {
        MoonTender x = CHECK.sea(TWO + "pull " + sum + ";");
        CHECK.due("pull of " + sum, x.pull(0, 1), want);
    }

    private static void sums() {
        String[] sums = {"7", "7/2", "(0-7)/2", "(0-7)%2", "7%(0-2)", "7/(0-2)", "(0-7)%(0-2)", "7/0", "7%0", "0/7",
            "2+3*4", "(2+3)*4", "20-5-3", "40/2/5", "2*7%4", "7%4*2", "min(3,4)", "max(3,4)", "min(0-3,4)", "99", "100",
            "0-99", "0-100", "9999*9999/9999/2", "(0-9999)*9999/9999/2", "(9999*100+9999*100)/9999/2",
            "(0-9999*100-9999*100)/9999/2", "9999*9999-9999*9999", "007+1", "max(1,min(9,5)+1)*2"};
        int[] want = {7, 3, -4, 1, -1, -4, -1, 0, 0, 0, 14, 20, 12, 4, 2, 6, 3, 4, -3, 99, 99, -99, -99, 50, -51, 50,
            -51, 0, 8, 12};
        for (int i = 0; i < sums.length; i++) {
            sum(sums[i], want[i]);
        }
        String[] words = {"height", "depth", "purse", "paid", "due", "far", "temper", "sulks", "rival", "hour", "place"};
        int[] first = {0, 0, 0, 6, 0, 1, 7, 0, 1, 0, 1};
        int[] second = {0, 0, 0, 1, 0, 1, 3, 0, 6, 0, 1};
        int[] later = {0, 0, 0, 6, 2, 2, 7, 1, 1, 1, 5};
        for (int i = 0; i < words.length; i++) {
            MoonTender x = CHECK.sea(TWO + "sulk 2;pull " + words[i] + ";");
            CHECK.due(words[i] + " of moon 0 on 1", x.pull(0, 1), first[i]);
            CHECK.due(words[i] + " of moon 1 on 1", x.pull(1, 1), second[i]);
            x.hours(1);
            CHECK.due(words[i] + " of moon 0 on 5 an hour later", x.pull(0, 5), later[i]);
        }
    }

    private static void promise11() {
        MoonTender x = CHECK.sea(TWO + "pull paid*10-far+place*100;");
        int[] want = {60, 99, 99, 99, 99, 99};
        for (int p = 0; p < 6; p++) {
            CHECK.due("pull(0, " + p + ")", x.pull(0, p), want[p]);
        }
        MoonTender y = CHECK.sea(TWO + "pull 0-far;");
        int[] steps = {-2, -1, 0, -1, -2, -3};
        for (int p = 0; p < 6; p++) {
            CHECK.due("pull(1, " + p + ")", y.pull(1, p), steps[p]);
        }
        MoonTender odd = CHECK.sea(TWO.replace("sea 6", "sea 5") + "pull 0-far;");
        int[] oddSteps = {-2, -1, 0, -1, -2};
        for (int p = 0; p < 5; p++) {
            CHECK.due("of five places: pull(1, " + p + ")", odd.pull(1, p), oddSteps[p]);
        }
        MoonTender both = CHECK.sea(TWO + "pull far*10+place;");
        int[] farAndPlace = {20, 11, 2, 13, 24, 35};
        for (int p = 0; p < 6; p++) {
            CHECK.due("far and place: pull(1, " + p + ")", both.pull(1, p), farAndPlace[p]);
        }
        CHECK.due("pull(2, 0)", y.pull(2, 0), NOTHING);
        CHECK.due("pull(-1, 0)", y.pull(-1, 0), NOTHING);
        CHECK.due("pull(0, 6)", y.pull(0, 6), NOTHING);
        CHECK.due("pull(0, -1)", y.pull(0, -1), NOTHING);
        MoonTender none = CHECK.sea(TWO);
        CHECK.due("without pull", none.pull(0, 0), 0);
        MoonTender mild = CHECK.sea(TWO + "pull temper;");
        CHECK.due("by its temper", mild.pull(0, 0), 7);
        mild.soothe(0, 2);
        CHECK.due("by its temper then", mild.pull(0, 0), 2);
        x.bid(0, 0, 0);
        CHECK.due("after a bid", x.pull(0, 0), 20);
        x.undo();
        CHECK.due("after it is undone", x.pull(0, 0), 60);
    }

    private static void heights(String sea, int ahead, int... want) {
        MoonTender x = CHECK.sea(sea);
        for (int p = 0; p < want.length; p++) {
            CHECK.due("height(" + p + ", " + ahead + ") of <" + sea + ">", x.height(p, ahead), want[p]);
        }
    }

    private static void promise12() {
        heights(ONE + "pull paid-far;", 0, 11, 10, 9, 9, 10, 11);
        heights(ONE + "pull paid-far;", 1, 10, 11, 10, 10, 9, 10);
        heights(ONE + "pull 0-far;", 0, 11, 10, 9, 9, 10, 11);
        heights(ONE + "pull 9999;", 3, 10, 10, 10, 10, 10, 10);
        heights(ONE + "pull place*50;", 0, -65, -15, 35, 35, 35, 35);
        heights(ONE, 48, 10, 10, 10, 10, 10, 10);
        heights("sea 4;level 0;", 0, 0, 0, 0, 0);
        heights("sea 4;pull 7;", 48, 20, 20, 20, 20);
        heights(TWO + "pull paid*(2-far);", 0, 18, 13, 8, 2, 7, 12);
        heights(ONE + "pull hour*(1-min(1,far));", 2, 9, 9, 12, 10, 10, 10);
    }

    private static void promise12Limits() {
        MoonTender x = CHECK.sea(ONE + "pull paid-far;");
        int[][] none = {{6, 0}, {-1, 0}, {0, 49}, {0, -1}, {0, Integer.MAX_VALUE}, {Integer.MIN_VALUE, 0}};
        for (int[] n : none) {
            CHECK.due("height(" + n[0] + ", " + n[1] + ")", x.height(n[0], n[1]), NOTHING);
        }
        CHECK.due("height(0, 48), the moon is back", x.height(0, 48), 11);
        CHECK.due("on", Check.on(x, Check.image(9990 >> 8, 9990 & 255, 0, 0, 0, 99, 5, 0, 0)), true);
        CHECK.due("height(0, 9) at hour 9990", x.height(0, 9) != NOTHING, true);
        CHECK.due("height(0, 10) at hour 9990", x.height(0, 10), NOTHING);
        x.hours(9);
        CHECK.due("height(0, 0) at hour 9999", x.height(0, 0) != NOTHING, true);
        CHECK.due("height(0, 1) at hour 9999", x.height(0, 1), NOTHING);
    }

    private static void promise13() {
        MoonTender x = CHECK.sea("sea 4;moon m at 0 goes 1 temper 0;harbor h at 0 purse 5 depth 20;"
                + "harbor i at 2 purse 0 depth 21;pays h m 3;");
        int[] purse = {5, 2, 2, 2};
        int[] due = {0, 0, 3, 6};
        for (int t = 0; t < 4; t++) {
            CHECK.due("ahead(0, " + t + ", 0)", x.ahead(0, t, 0), purse[t]);
            CHECK.due("ahead(0, " + t + ", 1)", x.ahead(0, t, 1), 0);
            CHECK.due("ahead(0, " + t + ", 2)", x.ahead(0, t, 2), due[t]);
            CHECK.due("ahead(1, " + t + ", 1)", x.ahead(1, t, 1), 1);
        }
        CHECK.due("ahead(0, 48, 2)", x.ahead(0, 48, 2), 46 * 3 + 3);
        CHECK.due("now is as it was", x.harbor(0, 1), 5);
        CHECK.due("the hour is as it was", x.has(7), 0);
        CHECK.due("no act was done", x.has(10), 0);
        int[][] none = {{2, 0, 0}, {-1, 0, 0}, {0, 49, 0}, {0, -1, 0}, {0, 0, 3}, {0, 0, -1}};
        for (int[] n : none) {
            CHECK.due("ahead(" + n[0] + ", " + n[1] + ", " + n[2] + ")", x.ahead(n[0], n[1], n[2]), -1);
        }
        MoonTender two = CHECK.sea("sea 4;moon m at 0 goes 1 temper 0;harbor h at 0 purse 50 depth 20;"
                + "harbor i at 2 purse 7 depth 21;pays h m 3;pays i m 4;");
        CHECK.due("purse of h", two.ahead(0, 2, 0), 44);
        CHECK.due("purse of i", two.ahead(1, 2, 0), 3);
        CHECK.due("due of i", two.ahead(1, 2, 2), 4);
        two.give(0, 1, 10);
        CHECK.due("purse of i after a gift", two.ahead(1, 2, 0), 9);
        CHECK.due("purse of h after a gift", two.ahead(0, 2, 0), 34);
        x.bid(0, 0, 1);
        CHECK.due("after another bid", x.ahead(0, 3, 0), 2);
        CHECK.due("after another bid", x.ahead(0, 3, 2), 0);
        Check.on(x, Check.image(9999 >> 8, 9999 & 255, 0, 0, 0, 5, 3, 0, 0, 0, 0, 0, 0, 0));
        CHECK.due("at hour 9999", x.ahead(0, 0, 0), 5);
        CHECK.due("beyond hour 9999", x.ahead(0, 1, 0), -1);
    }

    private static void earnings() {
        String[] sums = {"150", "0-5", "99", "7", "height", "depth", "purse*2", "paid", "due+1", "far", "temper", "sulks",
            "rival", "hour", "place"};
        int[] want = {99, 0, 99, 7, 19, 5, 6, 1, 1, 0, 0, 0, 0, 0, 2};
        for (int i = 0; i < sums.length; i++) {
            MoonTender x = CHECK.sea("sea 4;level 20;sulk 1;moon m at 0 goes 1 temper 8;harbor h at 2 purse 3 depth 5;"
                    + "pays h m 1;pull 1-far;earns " + sums[i] + ";");
            CHECK.due("earns " + sums[i], x.ahead(0, 1, 0), 3 + want[i] - 1);
        }
        MoonTender y = CHECK.sea("sea 4;harbor h at 0 purse 5 depth 0;earns purse;");
        CHECK.due("by the purse it has then", y.ahead(0, 4, 0), 80);
        CHECK.due("and 99 at most", y.ahead(0, 6, 0), 80 + 80 + 99);
        Check.on(y, Check.image(0, 0, 9990 >> 8, 9990 & 255));
        CHECK.due("9999 at most", y.ahead(0, 1, 0), 9999);
    }

    private static void holds(String test, boolean want) {
        MoonTender x = CHECK.sea("sea 4;level 20;sulk 1;moon m at 0 goes 0 temper 8;harbor h at 2 purse 3 depth 5;"
                + "pays h m 1;pull 1-far;clause " + test + ";");
        CHECK.due("clause " + test + " is broken now", x.broken(0) == 0, !want);
    }

    private static void tests() {
        String[] good = {"all", "1<2", "2>1", "1=1", "not 1<1", "1<2 or 2<1", "2<1 or 1<2", "1<2 and 2>1", "not not all",
            "not [2<1 or 2<1]", "all or all and not all", "not all and all or all", "[all or all] and all",
            "not all or all", "height=19", "depth=5", "purse=3", "paid=1", "due=0", "far=0", "temper=0", "sulks=0",
            "rival=0", "hour=0", "place=2", "1+2*3=7", "min(3,4)<max(3,4)", "0-1<0"};
        String[] bad = {"not all", "2<1", "1<1", "1>1", "1>2", "1=2", "not 1<2", "2<1 or 3<1", "1<2 and 2<1",
            "[all or all] and not all", "not [all and all]", "not all and all", "not not not all", "height<19",
            "2<1 and all or not all"};
        for (String test : good) {
            holds(test, true);
        }
        for (String test : bad) {
            holds(test, false);
        }
    }

    private static void broken(String clauses, int hour, int harbor, int clause) {
        MoonTender x = CHECK.sea("sea 4;moon m at 0 goes 0 temper 0;harbor h at 0 purse 5 depth 0;"
                + "harbor i at 1 purse 4 depth 0;pays h m 3;pays i m 2;" + clauses);
        CHECK.due("broken(2) of " + clauses, x.broken(2), clause);
        CHECK.due("broken(0) of " + clauses, x.broken(0), hour);
        CHECK.due("broken(1) of " + clauses, x.broken(1), harbor);
        CHECK.due("broken(3) of " + clauses, x.broken(3), -1);
        CHECK.due("broken(-1) of " + clauses, x.broken(-1), -1);
    }

    private static void promise14() {
        broken("clause purse>1;clause due<1;", 2, 0, 1);
        broken("clause due<1;clause purse>1;", 2, 0, 0);
        broken("clause purse>1;", 2, 1, 0);
        broken("clause all;clause not all;clause not all;", 0, 0, 1);
        broken("clause hour<48;", 48, 0, 0);
        broken("clause hour<49;", -1, -1, -1);
        broken("clause all;", -1, -1, -1);
        broken("", -1, -1, -1);
        broken("clause place=0 or hour<7;", 7, 1, 0);
        MoonTender x = CHECK.sea("sea 4;harbor h at 0 purse 0 depth 0;clause hour<6;");
        CHECK.due("broken(0)", x.broken(0), 6);
        x.hours(2);
        CHECK.due("broken(0) tells hours ahead", x.broken(0), 4);
        x.hours(4);
        CHECK.due("broken now", x.broken(0), 0);
        x.undo();
        CHECK.due("undone", x.broken(0), 4);
        MoonTender y = CHECK.sea("sea 4;clause not all;");
        CHECK.due("without a harbor", y.broken(0), -1);
        MoonTender z = CHECK.sea("sea 4;harbor h at 0 purse 0 depth 0;clause hour<9999;");
        Check.on(z, Check.image(9990 >> 8, 9990 & 255, 0, 0));
        CHECK.due("broken in the last hour", z.broken(0), 9);
    }

    private static void promise15() {
        MoonTender x = CHECK.sea(ONE + "pull paid-far;");
        CHECK.due("stranded(0, 0)", x.stranded(0, 0), 0);
        CHECK.due("stranded(1, 0)", x.stranded(1, 0), 0);
        CHECK.due("stranded(2, 0)", x.stranded(2, 0), 1);
        CHECK.due("stranded(0, 1)", x.stranded(0, 1), 2);
        CHECK.due("stranded(2, 1)", x.stranded(2, 1), 2);
        CHECK.due("stranded(3, 1)", x.stranded(3, 1), 3);
        CHECK.due("stranded(48, 1)", x.stranded(48, 1), -1);
        CHECK.due("stranded(48, 0)", x.stranded(48, 0), 0);
        int[][] none = {{49, 0}, {49, 1}, {-1, 0}, {-1, 1}, {0, 2}, {0, -1}};
        for (int[] n : none) {
            CHECK.due("stranded(" + n[0] + ", " + n[1] + ")", x.stranded(n[0], n[1]), -1);
        }
        MoonTender y = CHECK.sea("sea 4;level 7;harbor a at 0 purse 0 depth 8;harbor b at 1 purse 0 depth 7;"
                + "harbor c at 2 purse 0 depth 99;");
        CHECK.due("two are stranded", y.stranded(5, 0), 2);
        MoonTender z = CHECK.sea("sea 4;level 7;");
        CHECK.due("no harbor is", z.stranded(0, 0), 0);
        CHECK.due("never", z.stranded(0, 1), -1);
    }
}
