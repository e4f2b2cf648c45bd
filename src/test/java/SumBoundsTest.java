/** The bounds that "Terms" I names for SUMS and TESTS: results, / and %, what a word is where, far round the ring. */
public final class SumBoundsTest {
    private static final Check CHECK = new Check();
    private static final String MILLION = "1000*1000";

    public static void main(String[] args) {
        resultsAbove();
        resultsBelow();
        resultsEach();
        division();
        divisionByNothing();
        rest();
        restByNothing();
        fromTheLeft();
        signs();
        orAndNot();
        wordsInPull();
        wordsOfHarbors();
        farRoundTheRing();
        hourAndPlace();
        deepest();
        CHECK.finish("SumBoundsTest");
    }

    /** The SUM by a PULL; it must be from -99 to 99. */
    private static void sum(String sum, int want) {
        MoonTender x = CHECK.sea("sea 4;moon m at 0 goes 0 temper 0;pull " + sum + ";");
        CHECK.due(sum, x.pull(0, 0), want);
    }

    /** The TEST by a CLAUSE: whether it holds. */
    private static void test(String test, boolean want) {
        MoonTender x = CHECK.sea("sea 4;harbor h at 0 purse 0 depth 0;clause " + test + ";");
        CHECK.due(test, x.broken(0) != 0, want);
    }

    private static void resultsAbove() {
        CHECK.says("each result above 10 to the 6 is that");
        sum(MILLION + "-9999*100-99", 1);
        sum("9999*100+99-" + MILLION, -1);
        test(MILLION + "-1<" + MILLION, true);
        test(MILLION + "=" + MILLION + "+1", true);
        test(MILLION + ">" + MILLION + "-1", true);
        sum(MILLION + "+1-" + MILLION, 0);
        sum(MILLION + "+9999-" + MILLION, 0);
        sum("1000*1001-" + MILLION, 0);
        sum("9999*9999-" + MILLION, 0);
        sum(MILLION + "*9999-" + MILLION, 0);
        sum("(" + MILLION + ")*(" + MILLION + ")-" + MILLION, 0);
        sum("(0-" + MILLION + ")*(0-" + MILLION + ")-" + MILLION, 0);
        sum("(0-" + MILLION + ")/(0-1)-" + MILLION, 0);
        sum(MILLION + "-(0-1)-" + MILLION, 0);
        sum("0-1-(0-" + MILLION + ")-" + MILLION, -1);
        sum("1-(0-" + MILLION + ")-" + MILLION, 0);
        sum(MILLION + "+1-1-" + MILLION, -1);
    }

    private static void resultsBelow() {
        CHECK.says("below -10 to the 6 likewise");
        String low = "(0-" + MILLION + ")";
        sum(low + "+9999*100+99", -1);
        test(low + "+1>" + low, true);
        test(low + "-1=" + low, true);
        test(low + "<" + low + "+1", true);
        sum(low + "-1+" + MILLION, 0);
        sum(low + "-9999+" + MILLION, 0);
        sum(low + "*9999+" + MILLION, 0);
        sum("1001*(0-1000)+" + MILLION, 0);
        sum("999*(0-1001)+" + MILLION + "-9999/100", 1000000 - 999 * 1001 - 99);
        sum(low + "*(" + MILLION + ")+" + MILLION, 0);
        sum("(" + MILLION + ")/(0-1)+" + MILLION, 0);
        sum(low + "-1+1+" + MILLION, 1);
        sum(low + "+(0-1)+" + MILLION, 0);
    }

    private static void resultsEach() {
        CHECK.says("each result above 10 to the 6 is that, below -10 to the 6 likewise");
        sum("9999*9999/9999", 99);
        sum("9999*9999/9999-100", 0);
        sum("9999*9999/9999/9999", 0);
        sum("9999*9999*0", 0);
        sum("9999*(9999*0)", 0);
        sum("min(9999*9999,2000*2000)-" + MILLION, 0);
        sum("max(0-9999*9999,0-2000*2000)+" + MILLION, 0);
        sum("9999*9999%999", 1000000 % 999);
        sum("(0-9999*9999)%7", 6);
        sum("(0-9999*9999)/9999+9999/99", -101 + 101);
    }

    private static void division() {
        CHECK.says("/ gives the greatest whole number not above");
        int[][] rows = {{0, 3, 0}, {1, 3, 0}, {2, 3, 0}, {3, 3, 1}, {4, 3, 1}, {5, 3, 1}, {6, 3, 2}, {7, 1, 7},
            {-1, 3, -1}, {-2, 3, -1}, {-3, 3, -1}, {-4, 3, -2}, {-6, 3, -2}, {-7, 1, -7}, {1, -3, -1}, {2, -3, -1},
            {3, -3, -1}, {4, -3, -2}, {7, -1, -7}, {-1, -3, 0}, {-2, -3, 0}, {-3, -3, 1}, {-4, -3, 1}, {-6, -3, 2}};
        for (int[] row : rows) {
            sum(told(row[0]) + "/" + told(row[1]), row[2]);
        }
        sum("9999/9999", 1);
        sum("9998/9999", 0);
        sum("1000*1000/9999", 100 - 1);
    }

    private static String told(int n) {
        return n < 0 ? "(0-" + -n + ")" : String.valueOf(n);
    }

    private static void divisionByNothing() {
        CHECK.says("by 0 both give 0");
        for (String a : new String[] {"0", "1", "9999", "(0-1)", "9999*9999", "(0-9999*9999)"}) {
            sum(a + "/0", 0);
            sum(a + "/(1-1)", 0);
            sum("5+" + a + "/0+6", 11);
            sum("7-" + a + "/0*3", 7);
        }
    }

    private static void rest() {
        CHECK.says("% what is left (a less b times that)");
        for (int a = -7; a <= 7; a++) {
            for (int b = -3; b <= 3; b++) {
                if (b != 0) {
                    int floor = (int) Math.floor((double) a / b);
                    sum(told(a) + "%" + told(b), a - b * floor);
                }
            }
        }
        sum("9999%9999", 0);
        sum("98%9999", 98);
        sum("(0-1)%9999-9990", 8);
        sum("1%(0-9999)+9990", -8);
    }

    private static void restByNothing() {
        CHECK.says("by 0 both give 0");
        for (String a : new String[] {"0", "1", "9999", "(0-1)", "9999*9999", "(0-9999*9999)"}) {
            sum(a + "%0", 0);
            sum(a + "%(1-1)", 0);
            sum("5+" + a + "%0+6", 11);
        }
        sum("7/0%0/0", 0);
        sum("7%0/0+4", 4);
    }

    private static void fromTheLeft() {
        CHECK.says("All from the left on");
        sum("20-5-3", 12);
        sum("20-5+3", 18);
        sum("40/2/5", 4);
        sum("40/2*5", 99);
        sum("41/2*2", 40);
        sum("2*7%4", 2);
        sum("7%4*2", 6);
        sum("17%10%4", 3);
        sum("2+3*4", 14);
        sum("2*3+4", 10);
        sum("20-6/4", 19);
        sum("(20-6)/4", 3);
        sum("20-(6-4)", 18);
    }

    private static void signs() {
        CHECK.says("SUM SIGN SUM, SIGN < or > or = .");
        int[][] rows = {{1, 2}, {2, 2}, {3, 2}, {-1, 0}, {0, 0}, {0, -1}, {9999, 9998}, {9998, 9999}};
        for (int[] row : rows) {
            String a = told(row[0]);
            String b = told(row[1]);
            test(a + "<" + b, row[0] < row[1]);
            test(a + ">" + b, row[0] > row[1]);
            test(a + "=" + b, row[0] == row[1]);
            test("not " + a + "<" + b, row[0] >= row[1]);
            test("not " + a + ">" + b, row[0] <= row[1]);
            test("not " + a + "=" + b, row[0] != row[1]);
            sum("min(" + a + "," + b + ")%100", Math.floorMod(Math.min(row[0], row[1]), 100));
            sum("max(" + a + "," + b + ")%100", Math.floorMod(Math.max(row[0], row[1]), 100));
        }
    }

    private static void orAndNot() {
        CHECK.says("TEST: BOTH { or BOTH }. BOTH: FACT { and FACT }. FACT: not FACT; [ TEST ] ; all;");
        String[] facts = {"not all", "all"};
        for (int bits = 0; bits < 8; bits++) {
            boolean a = (bits & 4) != 0;
            boolean b = (bits & 2) != 0;
            boolean c = (bits & 1) != 0;
            String[] f = {facts[bits >> 2 & 1], facts[bits >> 1 & 1], facts[bits & 1]};
            test(f[0], a);
            test(f[0] + " or " + f[1], a || b);
            test(f[0] + " and " + f[1], a && b);
            test(f[0] + " or " + f[1] + " and " + f[2], a || b && c);
            test(f[0] + " and " + f[1] + " or " + f[2], a && b || c);
            test("[" + f[0] + " or " + f[1] + "] and " + f[2], (a || b) && c);
            test("not [" + f[0] + " and " + f[1] + "] or " + f[2], !(a && b) || c);
            test("not " + f[0] + " and " + f[1], !a && b);
            test(f[0] + " or " + f[1] + " or " + f[2], a || b || c);
            test(f[0] + " and " + f[1] + " and " + f[2], a && b && c);
        }
    }

    private static void wordsInPull() {
        CHECK.says("height, depth, purse are 0. In earns");
        String sea = "sea 5;level 30;sulk 3;moon m at 1 goes 1 temper 7;moon n at 3 goes 1 temper 9;"
                + "harbor h at 2 purse 4 depth 6;harbor i at 4 purse 50 depth 8;pays h m 2;pays h n 3;pays i m 1;pays i n 4;"
                + "earns min(0,height);clause purse<99;";
        String[] words = {"height", "depth", "purse", "paid", "due", "far", "temper", "sulks", "rival", "hour", "place"};
        int[] first = {0, 0, 0, 3, 0, 2, 7, 0, 7, 0, 4};
        int[] later = {0, 0, 0, 7, 3, 0, 9, 1, 3, 1, 4};
        for (int i = 0; i < words.length; i++) {
            MoonTender x = CHECK.sea(sea + "pull " + words[i] + ";");
            CHECK.due(words[i] + " of m on 4", x.pull(0, 4), first[i]);
            x.hours(1);
            CHECK.due(words[i] + " of n on 4 an hour later", x.pull(1, 4), later[i]);
        }
    }

    private static void wordsOfHarbors() {
        CHECK.says("far, temper, sulks, rival are 0.");
        String sea = "sea 5;level 30;sulk 1;moon m at 1 goes 1 temper 7;moon n at 1 goes 1 temper 8;"
                + "harbor g at 0 purse 0 depth 9;harbor h at 2 purse 4 depth 6;pays h m 5;pays g m 1;pays g n 2;"
                + "pull (1-far)*(8-temper);";
        String[] words = {"height", "depth", "purse", "paid", "due", "far", "temper", "sulks", "rival", "hour", "place"};
        int[] first = {30, 6, 4, 5, 0, 0, 0, 0, 0, 0, 2};
        int[] later = {31, 6, 4, 5, 5, 0, 0, 0, 0, 1, 2};
        for (int i = 0; i < words.length; i++) {
            MoonTender x = CHECK.sea(sea + "clause place=0 or hour>0 or " + words[i] + "=" + first[i] + ";");
            CHECK.due(words[i] + " in a clause", x.broken(0), -1);
            x = CHECK.sea(sea + "clause place=0 or hour=0 or " + words[i] + "=" + later[i] + " or hour>1;");
            CHECK.due(words[i] + " in a clause an hour later", x.broken(0), -1);
            x = CHECK.sea(sea + "clause place=0 or not " + words[i] + "=" + first[i] + ";");
            CHECK.due(words[i] + " in a clause, not", x.broken(0), 0);
            x = CHECK.sea(sea + "earns " + words[i] + ";");
            int paid = 4 + first[i] >= 5 ? 5 : 0;
            CHECK.due(words[i] + " in what is earned", x.ahead(1, 1, 0), 4 + first[i] - paid);
        }
    }

    private static void farRoundTheRing() {
        CHECK.says("far the fewest steps round the ring from it to the PLACE");
        for (int places : new int[] {4, 5, 6, 7, 23, 24}) {
            for (int at : new int[] {0, 1, places / 2, places - 1}) {
                MoonTender x = CHECK.sea("sea " + places + ";moon m at " + at + " goes 0 temper 0;pull far;");
                MoonTender y = CHECK.sea("sea " + places + ";moon m at " + at + " goes 0 temper 0;pull far+place-place;");
                for (int p = 0; p < places; p++) {
                    int apart = Math.abs(p - at);
                    CHECK.due("far of " + at + " and " + p + " of " + places, x.pull(0, p), Math.min(apart, places - apart));
                    CHECK.due("far and place, likewise", y.pull(0, p), Math.min(apart, places - apart));
                }
            }
        }
    }

    private static void hourAndPlace() {
        CHECK.says("The HOUR, the PLACE.");
        MoonTender x = CHECK.sea("sea 24;moon m at 0 goes 0 temper 0;pull place;");
        CHECK.due("the first place", x.pull(0, 0), 0);
        CHECK.due("the last place", x.pull(0, 23), 23);
        MoonTender y = CHECK.sea("sea 4;moon m at 0 goes 0 temper 0;pull hour-9950;");
        CHECK.due("hour 0", y.pull(0, 0), -99);
        Check.withHour(y, 9998);
        CHECK.due("hour 9998", y.pull(0, 0), 48);
        y.hours(1);
        CHECK.due("hour 9999", y.pull(0, 0), 49);
    }

    /** Seven open at once, with as much waiting in each as can be. */
    private static void deepest() {
        CHECK.says("(not until its FACT ends)");
        String sum = "1+1*max(1,".repeat(7) + "2" + ")".repeat(7);
        sum(sum, 9);
        sum("1+1*min(3,1+1*".repeat(7) + "2" + ")".repeat(7), 4);
        StringBuilder deep = new StringBuilder();
        for (int i = 0; i < 6; i++) {
            deep.append("not all or all and [");
        }
        deep.append("1<1+2*(3)").append("]".repeat(6));
        test(deep.toString(), true);
        test(deep.toString().replace("1<1+2*(3)", "1>1+2*(3)"), false);
        test("not [".repeat(3) + "1+2*(3)<1+2*max(1,3)" + "]".repeat(3), true);
        test("not [".repeat(3) + "1+2*(4)<1+2*max(1,4)-1" + "]".repeat(3), true);
    }
}
