import java.lang.reflect.Method;
import java.util.ArrayList;
import java.util.Arrays;
import java.util.List;

/**
 * The document read from its first line to the promises, no word left out: what it says, and answers, most of them
 * reckoned by hand.
 */
public final class TermsTest {
    private static final Check CHECK = new Check();
    private static final String MOON = "moon m at 0 goes 0 temper 3;";
    private static final String HARBOR = "harbor h at 1 purse 7 depth 9;";
    private static final String FACE = """
            ```java
            public final class MoonTender {
                public static final int NONE = -1;
                public static final int NOTHING = -1000000000;
                public MoonTender();
                public int feed(int a, int b, int c, int d, int e);
                public boolean end(int n);
                public int sea();
                public int fault(int what);
                public int has(int what);
                public int letter(int kind, int which, int k);
                public int moon(int moon, int what);
                public int harbor(int harbor, int what);
                public int bids(int harbor, int moon, int what);
                public int pull(int moon, int place);
                public int height(int place, int ahead);
                public int ahead(int harbor, int ahead, int what);
                public int broken(int what);
                public int stranded(int ahead, int what);
                public int bid(int harbor, int moon, int n);
                public boolean give(int from, int to, int n);
                public int soothe(int moon, int n);
                public int hours(int n);
                public int storms(int n);
                public boolean undo();
                public boolean seed(int seed);
                public int wished(int harbor, int height, int k);
                public int rest(int k);
                public int across(int from, int to, int draught);
                public int latest(int from, int to, int draught);
                public int meet(int what);
                public int see();
                public int payers(int what);
                public int image();
                public int octet(int k);
                public boolean on();
                public int status(int what);
            }
            ```""";

    public static void main(String[] args) {
        CHECK.readsFrom("# MoonTender");
        whatItIs();
        face();
        whatIsAsked();
        statements();
        grammar();
        words();
        reckoning();
        names();
        faults();
        heights();
        hour();
        acts();
        ahead();
        rest();
        ships();
        meetingsAndBanks();
        payersAndImages();
        constants();
        CHECK.readsUpTo("## Promise 1");
        CHECK.finish("TermsTest");
    }

    /** What a SUM gives as the PULL of a MOON of temper 3 on the PLACE beside it. */
    private static int sum(String sum) {
        return CHECK.sea("sea 4;" + MOON + HARBOR + "pull " + sum + ";").pull(0, 1);
    }

    /** Whether a TEST holds for a HARBOR at PLACE 1 (purse 7, depth 9, HEIGHT 20) in HOUR 0. */
    private static boolean holds(String test) {
        return CHECK.sea("sea 4;" + MOON + HARBOR + "clause " + test + ";").broken(0) != 0;
    }

    private static void sumIs(String sum, int want) {
        CHECK.due(sum, sum(sum), want);
    }

    private static void testIs(String test, boolean want) {
        CHECK.due(test, holds(test), want);
    }

    private static void whatItIs() {
        CHECK.reads("# MoonTender ## What it is");
        CHECK.reads("A sea of moons that bid for the tide: places in a ring, moons that go round, harbours with purses,"
                + " told as a text with what they pay, what they owe, clauses, pulls and earnings in a small language.");
        MoonTender x = CHECK.sea(Example.SEA);
        int[] has = {6, 2, 3, 3, 2, 20, 5, 0, 14, 0, 0, 1};
        for (int what = 0; what < has.length; what++) {
            CHECK.due("has(" + what + ")", x.has(what), has[what]);
        }
        CHECK.reads("An object is used for at most 512 calls after it has been made; what later calls answer is free.");
        MoonTender y = new MoonTender();
        Check.sea(y, "sea 4;" + MOON + HARBOR);
        for (int call = 7; call <= 512; call++) {
            CHECK.due("call " + call, y.bid(0, 0, call % 21), call == 7 ? 0 : (call - 1) % 21);
        }
    }

    private static void face() {
        CHECK.reads("## The public face");
        CHECK.reads(FACE.replaceAll("\\s+", " "));
        List<String> due = new ArrayList<>();
        for (String line : FACE.split("\n")) {
            if (line.contains("(") && !line.contains("MoonTender")) {
                due.add(line.strip().replaceAll("int \\w+(?=[,)])", "int"));
            }
        }
        List<String> got = new ArrayList<>();
        for (Method m : MoonTender.class.getDeclaredMethods()) {
            if (m.toString().startsWith("public ")) {
                String types = Arrays.toString(m.getParameterTypes()).replace("[", "(").replace("]", ")");
                got.add("public " + m.getReturnType() + " " + m.getName() + types + ";");
            }
        }
        due.sort(null);
        got.sort(null);
        CHECK.due("the methods " + got, got.equals(due), true);
        CHECK.due("as many as the promises, but for the new object", got.size(), 32);
    }

    private static void whatIsAsked() {
        CHECK.reads("## Terms Water goes to whom it is pulled, and adds up; hours go by, bids are paid or are due,"
                + " moons sulk.");
        MoonTender x = CHECK.sea(Example.SEA);
        for (int t = 0; t <= 6; t++) {
            if (t > 0) {
                CHECK.due("hours(1)", x.hours(1), t);
            }
            int together = 0;
            for (int p = 0; p < 6; p++) {
                CHECK.due("height " + p + " in hour " + t, x.height(p, 0), Example.HEIGHTS[t][p]);
                together += x.height(p, 0);
            }
            CHECK.due("it adds up", together, 6 * 20);
            for (int h = 0; h < 3; h++) {
                CHECK.due("purse " + h + " in hour " + t, x.harbor(h, 1), Example.PURSES[t][h]);
                CHECK.due("due from " + h + " in hour " + t, x.harbor(h, 4), Example.duesFrom(t)[h]);
            }
            CHECK.due("moon a sulks in hour " + t, x.moon(0, 5), t == 6 ? 1 : 0);
        }
        CHECK.reads("Asked are: heights in any hour ahead, who is stranded, which clause is broken first, the least bids"
                + " for a height, where bidding comes to rest, how soon a ship is across and how late it may set out, when"
                + " all moons meet, whose bank fails and how much help stops it, who paid by heights that were seen; bids,"
                + " gifts, storms by a seed; acts undone; images.");
        MoonTender y = CHECK.sea(Example.SEA);
        CHECK.due("heights", y.height(3, 3), 26);
        CHECK.due("stranded", y.stranded(1, 0), 2);
        CHECK.due("broken", y.broken(0), 3);
        CHECK.due("wished", y.wished(0, 28, -1), 10);
        CHECK.due("rest", y.rest(-1), 2);
        CHECK.due("across", y.across(0, 1, 19), 3);
        CHECK.due("latest", y.latest(0, 1, 19), 42);
        CHECK.due("meet", y.meet(0), 3);
        CHECK.due("fails", y.harbor(0, 8), 1);
        CHECK.due("help", y.harbor(0, 9), 1);
        Check.see(y, 0, 22);
        CHECK.due("payers", y.payers(0), 3);
        CHECK.due("bid", y.bid(0, 0, 4), 3);
        CHECK.due("gift", y.give(1, 0, 1), true);
        CHECK.due("storms", y.storms(1), 1);
        CHECK.due("undone", y.undo() && y.undo() && y.undo(), true);
        CHECK.due("image", y.image(), 31);
    }

    private static void statements() {
        CHECK.reads("I. A SEA is a text: { STATEMENT ; } (80 at most):");
        CHECK.due("80", Check.sea(new MoonTender(), "sea 4;" + "level 1;".repeat(79)), 80);
        CHECK.fault(6, "sea 4;" + "level 1;".repeat(79) + "^level 1;");
        CHECK.fault(1, "sea 4^");
        CHECK.fault(1, "sea 4;^;");

        CHECK.reads("sea N (4 .. 24 PLACES, 0 and on, in a ring; the first STATEMENT, and it alone);");
        for (int n : new int[] {4, 5, 24}) {
            MoonTender x = CHECK.sea("sea " + n + ";" + MOON + "pull far;");
            CHECK.due("has(0)", x.has(0), n);
            CHECK.due("the last place is beside place 0", x.pull(0, n - 1), 1);
            CHECK.due("there is none behind it", x.pull(0, n), MoonTender.NOTHING);
        }
        CHECK.fault(4, "sea ^3;");
        CHECK.fault(4, "sea ^25;");
        CHECK.fault(1, "^level 4;sea 4;");
        CHECK.fault(1, "sea 4;^sea 4;");

        CHECK.reads("moon NAME at N goes N temper N (a PLACE; 0 .. 23 PLACES an HOUR; 0 .. 9; 3 MOONS);");
        MoonTender x = CHECK.sea("sea 5;moon a at 4 goes 0 temper 0;moon b at 0 goes 23 temper 9;moon c at 2 goes 4 temper 5;");
        int[][] told = {{4, 0, 0}, {0, 23, 9}, {2, 4, 5}};
        int[][] next = {{4, 4}, {3, 1}, {1, 0}};
        for (int m = 0; m < 3; m++) {
            for (int what = 0; what < 3; what++) {
                CHECK.due("moon(" + m + ", " + what + ")", x.moon(m, what), told[m][what]);
            }
        }
        for (int t = 0; t < 2; t++) {
            x.hours(1);
            for (int m = 0; m < 3; m++) {
                CHECK.due("moon " + m + " after " + (t + 1), x.moon(m, 0), next[m][t]);
            }
        }
        CHECK.fault(4, "sea 5;moon a at ^5 goes 0 temper 0;");
        CHECK.fault(4, "sea 5;moon a at 0 goes ^24 temper 0;");
        CHECK.fault(4, "sea 5;moon a at 0 goes 0 temper ^10;");
        CHECK.fault(6, "sea 5;moon a at 0 goes 0 temper 0;moon b at 0 goes 0 temper 0;moon c at 0 goes 0 temper 0;^moon d");

        harborsAndWhatTheyPay();
    }

    private static void harborsAndWhatTheyPay() {
        CHECK.reads("harbor NAME at N purse N depth N (a PLACE without one; 0 .. 999; 0 .. 99; 8 HARBORS);");
        StringBuilder eight = new StringBuilder("sea 8;");
        for (int h = 0; h < 8; h++) {
            eight.append("harbor ").append((char) ('a' + h)).append(" at ").append(7 - h).append(" purse ")
                    .append(999 - h).append(" depth ").append(h == 0 ? 0 : 100 - h).append(';');
        }
        MoonTender x = CHECK.sea(eight.toString());
        for (int h = 0; h < 8; h++) {
            CHECK.due("place of " + h, x.harbor(h, 0), 7 - h);
            CHECK.due("purse of " + h, x.harbor(h, 1), 999 - h);
            CHECK.due("depth of " + h, x.harbor(h, 2), h == 0 ? 0 : 100 - h);
        }
        CHECK.fault(6, eight + "^harbor z at 0 purse 0 depth 0;");
        CHECK.fault(4, "sea 4;harbor h at ^4 purse 0 depth 0;");
        CHECK.fault(4, "sea 4;harbor h at 3 purse ^1000 depth 0;");
        CHECK.fault(4, "sea 4;harbor h at 3 purse 0 depth ^100;");
        CHECK.fault(4, "sea 4;harbor h at 3 purse 0 depth 9;harbor i at ^3 purse 0 depth 9;");
        CHECK.due("a moon may be where a harbor is", Check.sea(new MoonTender(),
                "sea 4;harbor h at 3 purse 0 depth 9;moon m at 3 goes 0 temper 0;moon n at 3 goes 0 temper 0;"), 4);

        CHECK.reads("pays NAME NAME N (a HARBOR, a MOON; 0 .. 20; the last one of these two counts; 0 without);");
        String two = "sea 4;" + MOON + "moon n at 1 goes 0 temper 0;" + HARBOR + "harbor i at 2 purse 0 depth 0;";
        MoonTender y = CHECK.sea(two + "pays h m 20;pays i m 3;pays h m 5;pays i n 7;pays i n 0;");
        int[] bids = {5, 0, 3, 0};
        for (int k = 0; k < 4; k++) {
            CHECK.due("bids(" + k / 2 + ", " + k % 2 + ", 0)", y.bids(k / 2, k % 2, 0), bids[k]);
        }
        CHECK.fault(4, two + "pays h m ^21;");
        CHECK.fault(3, two + "pays ^m h 2;");
        CHECK.fault(3, two + "pays h ^i 2;");

        CHECK.reads("owes NAME NAME N (two unlike HARBORS, the first one owes the second one; 1 .. 999; 16 DEBTS);");
        MoonTender z = CHECK.sea(two + "owes h i 999;" + "owes i h 1;".repeat(15));
        CHECK.due("debts", z.has(3), 16);
        CHECK.due("h owes", z.harbor(0, 6), 999);
        CHECK.due("h is owed", z.harbor(0, 7), 15);
        CHECK.due("i owes", z.harbor(1, 6), 15);
        CHECK.due("i is owed", z.harbor(1, 7), 999);
        CHECK.fault(6, two + "owes i h 1;".repeat(16) + "^owes i h 1;");
        CHECK.fault(3, two + "owes i ^i 1;");
        CHECK.fault(4, two + "owes i h ^0;");
        CHECK.fault(4, two + "owes i h ^1000;");

        CHECK.reads("clause TEST (6 CLAUSES);");
        MoonTender c = CHECK.sea("sea 4;" + HARBOR + "clause all;".repeat(5) + "clause 1<1;");
        CHECK.due("clauses", c.has(4), 6);
        CHECK.due("the sixth one is broken", c.broken(2), 5);
        CHECK.fault(6, "sea 4;" + "clause all;".repeat(6) + "^clause all;");
        CHECK.reads("pull SUM, earns SUM (one each);");
        MoonTender e = CHECK.sea("sea 4;" + MOON + HARBOR + "pull 2*far;earns 4+3;");
        CHECK.due("pull", e.pull(0, 2), 4);
        CHECK.due("earned", e.ahead(0, 1, 0), 14);
        CHECK.fault(6, "sea 4;pull 1;earns 2;^pull 1;");
        CHECK.fault(6, "sea 4;pull 1;earns 2;^earns 1;");
        CHECK.reads("level N (0 .. 99), sulk N (1 .. 999): the last one of each counts (20 and 50 without).");
        MoonTender l = CHECK.sea("sea 4;level 99;sulk 1;level 0;sulk 999;");
        CHECK.due("level", l.has(5), 0);
        CHECK.due("sulk", l.has(6), 999);
        MoonTender n = CHECK.sea("sea 4;");
        CHECK.due("without level", n.has(5), 20);
        CHECK.due("without sulk", n.has(6), 50);
        CHECK.fault(4, "sea 4;level ^100;");
        CHECK.fault(4, "sea 4;sulk ^0;");
        CHECK.fault(4, "sea 4;sulk ^1000;");
    }

    private static void grammar() {
        CHECK.reads("```text TEST: BOTH { or BOTH }.");
        testIs("1<1 or 1<1 or 1<2", true);
        testIs("1<1 or 1<1 or 1<1", false);
        testIs("1<2 or 1<1 and 1<1", true);
        CHECK.reads("BOTH: FACT { and FACT }.");
        testIs("all and 1<2 and 2<3", true);
        testIs("all and 1<2 and 3<3", false);
        testIs("1<1 and 1<1 or all", true);
        CHECK.reads("FACT: not FACT; [ TEST ] ; all; SUM SIGN SUM, SIGN < or > or = .");
        testIs("not all", false);
        testIs("not not all", true);
        testIs("not 1<1 and 1<1", false);
        testIs("not [1<1 and 1<1]", true);
        testIs("[all or all] and 1<1", false);
        testIs("1+1<1+2", true);
        testIs("2<2", false);
        testIs("3>2", true);
        testIs("2>2", false);
        testIs("2=1+1", true);
        testIs("2=1", false);
        CHECK.fault(1, "sea 4;clause 1^;");
        CHECK.fault(1, "sea 4;clause 1<2^<3;");
        CHECK.fault(1, "sea 4;clause [all^;");
        CHECK.fault(1, "sea 4;clause all ^all;");
        CHECK.reads("SUM: PRODUCT { + or - PRODUCT }.");
        sumIs("7-2-3+1", 3);
        sumIs("7-2*3", 1);
        CHECK.fault(1, "sea 4;pull ^-1;");
        CHECK.fault(1, "sea 4;pull 1+^;");
        CHECK.reads("PRODUCT: PART { * or / or % PART }.");
        sumIs("2*3*4", 24);
        sumIs("17%5*10/4", 5);
        CHECK.fault(1, "sea 4;pull 2*^*3;");
        CHECK.reads("PART: N; height; depth; purse; paid; due; far; temper; sulks; rival; hour; place; ( SUM ) ;"
                + " min ( SUM , SUM ) ; max ( SUM , SUM ) .");
        for (String word : new String[] {"0", "height", "depth", "purse", "paid", "due", "sulks", "rival", "hour"}) {
            sumIs(word, 0);
        }
        sumIs("9999-9990", 9);
        sumIs("far", 1);
        sumIs("temper", 3);
        sumIs("place", 1);
        sumIs("7-(2-3)", 8);
        sumIs("min(4,1+2)*max(2-5,0-1)", -3);
        CHECK.fault(1, "sea 4;pull min ^3;");
        CHECK.fault(1, "sea 4;pull min(1^);");
        CHECK.fault(1, "sea 4;pull (1^,2);");
        CHECK.fault(1, "sea 4;pull ^level;");
        CHECK.fault(1, "sea 4;pull ^[1];");
        CHECK.fault(1, "sea 4;pull ^m;");
    }

    private static void words() {
        CHECK.reads("In pull (of a MOON on a PLACE): paid is what all HARBORS bid it, due what is DUE to it, far the fewest"
                + " steps round the ring from it to the PLACE, temper its, sulks 1 if it SULKS, else 0, rival what all"
                + " HARBORS bid the other MOONS; height, depth, purse are 0.");
        String sea = "sea 5;moon a at 4 goes 0 temper 2;moon b at 1 goes 0 temper 7;harbor h at 0 purse 0 depth 3;"
                + "harbor i at 3 purse 50 depth 4;pays h a 3;pays i a 4;pays h b 6;sulk 6;level 30;";
        String[] words = {"paid", "due", "temper", "sulks", "rival", "height", "depth", "purse"};
        int[][] now = {{7, 0, 2, 0, 6, 0, 0, 0}, {6, 0, 7, 0, 7, 0, 0, 0}};
        int[][] then = {{7, 3, 2, 0, 6, 0, 0, 0}, {6, 6, 7, 1, 7, 0, 0, 0}};
        for (int k = 0; k < words.length; k++) {
            MoonTender x = CHECK.sea(sea + "pull " + words[k] + ";");
            for (int m = 0; m < 2; m++) {
                CHECK.due(words[k] + " of moon " + m, x.pull(m, 2), now[m][k]);
            }
            x.hours(1);
            for (int m = 0; m < 2; m++) {
                CHECK.due(words[k] + " of moon " + m + " an hour later", x.pull(m, 2), then[m][k]);
            }
        }
        MoonTender f = CHECK.sea(sea + "pull far;");
        int[][] far = {{1, 2, 2, 1, 0}, {1, 0, 1, 2, 2}};
        for (int k = 0; k < 10; k++) {
            CHECK.due("far from moon " + k / 5 + " to " + k % 5, f.pull(k / 5, k % 5), far[k / 5][k % 5]);
        }

        CHECK.reads("In earns and clause (of a HARBOR): height is that of its PLACE, depth, purse its, paid all that it"
                + " bids, due all that is DUE from it; far, temper, sulks, rival are 0.");
        String[] told = {"height", "depth", "purse", "paid", "due", "far", "temper", "sulks", "rival"};
        int[][] first = {{30, 3, 0, 9, 0, 0, 0, 0, 0}, {30, 4, 50, 4, 0, 0, 0, 0, 0}};
        int[][] second = {{30, 3, 0, 9, 9, 0, 0, 0, 0}, {30, 4, 46, 4, 0, 0, 0, 0, 0}};
        for (int k = 0; k < told.length; k++) {
            for (int h = 0; h < 2; h++) {
                String only = "place=" + (h == 0 ? 3 : 0) + " or ";
                String both = "hour=0 and " + told[k] + "=" + first[h][k] + " or hour=1 and " + told[k] + "=" + second[h][k];
                MoonTender x = CHECK.sea(sea + "clause " + only + both + ";");
                CHECK.due(told[k] + " of harbor " + h + " is broken first in hour 2", x.broken(0), 2);
                CHECK.due("by it", x.broken(1), h);
            }
            MoonTender x = CHECK.sea(sea + "earns " + told[k] + ";");
            for (int h = 0; h < 2; h++) {
                CHECK.due("earning " + told[k] + ", harbor " + h, x.ahead(h, 1, 0), afterEarning(h, first[h][k]));
            }
        }

        CHECK.reads("The HOUR, the PLACE.");
        MoonTender x = CHECK.sea(sea + "pull hour*10+place;earns 10*hour+place;");
        x.hours(2);
        CHECK.due("hour 2, place 3", x.pull(1, 3), 23);
        CHECK.due("hour 2, place 0", x.pull(0, 0), 20);
        CHECK.due("harbor i has earned 3 and 13, paid 8", x.harbor(1, 1), 58);
    }

    /** What a HARBOR of the SEA above has after it earned something in HOUR 0: h has 0, bids 3 and 6; i has 50, bids 4. */
    private static int afterEarning(int harbor, int earned) {
        if (harbor == 1) {
            return 50 + earned - 4;
        }
        int behindFirst = earned >= 3 ? earned - 3 : earned;
        return behindFirst >= 6 ? behindFirst - 6 : behindFirst;
    }

    private static void reckoning() {
        CHECK.reads("All from the left on;");
        sumIs("20-5-4-3", 8);
        sumIs("40/4/5", 2);
        sumIs("7/2*2", 6);
        sumIs("7*2/4", 3);
        sumIs("2*7%4", 2);
        CHECK.reads("/ gives the greatest whole number not above, % what is left (a less b times that); by 0 both give 0;");
        int[][] rows = {{7, 2, 3, 1}, {-7, 2, -4, 1}, {7, -2, -4, -1}, {-7, -2, 3, -1}, {6, -3, -2, 0}, {-1, 9, -1, 8},
            {1, -9, -1, -8}, {0, 5, 0, 0}, {5, 0, 0, 0}, {-5, 0, 0, 0}, {0, 0, 0, 0}};
        for (int[] row : rows) {
            String left = (row[0] < 0 ? "(0-" + -row[0] : "(0+" + row[0]) + ")";
            String right = (row[1] < 0 ? "(0-" + -row[1] : "(0+" + row[1]) + ")";
            sumIs(left + "/" + right, row[2]);
            sumIs(left + "%" + right, row[3]);
        }
        CHECK.reads("each result above 10 to the 6 is that, below -10 to the 6 likewise.");
        sumIs("1000*1000/5000/4", 50);
        sumIs("1001*1000/5000/4", 50);
        sumIs("1000*999/5000", 99);
        sumIs("999*999/9999", 99);
        sumIs("(1001*1000-999*1000)/1000", 1);
        sumIs("(1000*1000+1-999*1000)/100", 10);
        sumIs("((0-1000)*1000-1+999*1000)/100", -10);
        sumIs("((0-1000)*1001+999*1000)/1000", -1);
        sumIs("9999*9999/9999/2", 50);
    }

    private static void names() {
        CHECK.reads("NAMES: 1 to 6 letters, unlike ones (of all sorts), told ahead of where they are asked.");
        MoonTender x = CHECK.sea("sea 4;moon z at 0 goes 0 temper 0;harbor abcxyz at 0 purse 0 depth 0;pays abcxyz z 4;");
        int[] letters = {1, 2, 3, 24, 25, 26};
        for (int k = 0; k < 6; k++) {
            CHECK.due("letter " + k, x.letter(1, 0, k), letters[k]);
            CHECK.due("letter " + k + " of z", x.letter(0, 0, k), k == 0 ? 26 : 0);
        }
        CHECK.due("a name may begin another one", Check.sea(new MoonTender(),
                "sea 4;moon a at 0 goes 0 temper 0;moon aa at 0 goes 0 temper 0;moon seas at 0 goes 0 temper 0;"), 4);
        CHECK.fault(2, "sea 4;moon a at 0 goes 0 temper 0;moon ^a at 0 goes 0 temper 0;");
        CHECK.fault(2, "sea 4;moon a at 0 goes 0 temper 0;harbor ^a at 0 purse 0 depth 0;");
        CHECK.fault(3, "sea 4;moon a at 0 goes 0 temper 0;pays ^h a 1;harbor h at 0 purse 0 depth 0;");
        CHECK.fault(1, "sea 4;moon ^A at 0 goes 0 temper 0;");
        CHECK.fault(1, "sea 4;moon abcdef^g at 0 goes 0 temper 0;");
        CHECK.reads("NUMBERS: 1 to 4 digits.");
        sumIs("0009", 9);
        sumIs("9999/101", 99);
        CHECK.fault(1, "sea 4;pull 0000^9;");
        CHECK.fault(1, "sea 0000^4;");
        CHECK.reads("Blanks (10, 32) are where one likes (words and numbers side by side need one).");
        CHECK.due("many", Check.sea(new MoonTender(), "\n \nsea\n4 ; moon m\nat 0\ngoes 0 temper 0\n;pull  3 *\n( far-1 ) ;\n\n"), 3);
        CHECK.due("few", Check.sea(new MoonTender(), "sea 4;moon m at 0 goes 0 temper 0;pull 3*(far-1);"), 3);
        CHECK.fault(1, "sea^4;");
        CHECK.fault(1, "sea 4;clause 1<2^or all;");
        CHECK.fault(1, "sea 4;^lev el 3;");
        CHECK.fault(1, "sea 4;level 3 ^4;");
        CHECK.fault(1, "sea^\t4;");
        CHECK.fault(1, "sea^\r4;");
        CHECK.reads("OWN WORDS, which no NAME is: sea, moon, at, goes, temper, harbor, purse, depth, pays, owes, clause,"
                + " pull, earns, level, sulk, height, paid, due, far, sulks, rival, hour, place, or, and, not, all, min, max.");
        String own = "sea moon at goes temper harbor purse depth pays owes clause pull earns level sulk height paid due far"
                + " sulks rival hour place or and not all min max";
        for (String word : own.split(" ")) {
            CHECK.fault(1, "sea 4;moon ^" + word + " at 0 goes 0 temper 0;");
            CHECK.fault(1, "sea 4;harbor ^" + word + " at 0 purse 0 depth 0;");
            CHECK.fault(1, "sea 4;pays ^" + word + " m 0;");
            String longer = word.length() < 6 ? word + "x" : word.substring(1);
            CHECK.due(longer + " is a name", Check.sea(new MoonTender(), "sea 4;moon " + longer + " at 0 goes 0 temper 0;"), 2);
        }
    }

    private static void faults() {
        CHECK.reads("FAULTS, the first along the text:");
        CHECK.fault(4, "sea 4;level ^100;pays x y 1;?");
        CHECK.fault(3, "sea 4;pays ^x y 21;level 100;");
        CHECK.fault(1, "sea 4;^?;level 100;");
        CHECK.reads("1 the first byte with which no SEA goes on (words and numbers whole, at their first byte; at the text's"
                + " length, if it ends too soon; a 7th letter, a 5th digit at itself, whatever may stand there; an OWN WORD"
                + " where a NAME must be);");
        CHECK.fault(1, "sea 4;moon m ^on 3 goes");
        CHECK.fault(1, "sea 4;moon m at ^atat goes");
        CHECK.fault(1, "sea 4;^12 moon");
        CHECK.fault(1, "sea 4;level 12  \n ^");
        CHECK.fault(1, "sea 4;clause all or^");
        CHECK.fault(1, "^");
        CHECK.fault(1, "   ^");
        CHECK.fault(1, "sea 4;^levels");
        CHECK.fault(1, "sea 4;level^");
        CHECK.fault(1, "sea 4;abcdef^g");
        CHECK.fault(1, "sea abcdef^g;");
        CHECK.fault(1, "sea 4;pull 1234^5;");
        CHECK.fault(1, "sea 4;moon 1234^5 at");
        CHECK.fault(1, "sea 4;moon ^at at 0");
        CHECK.fault(1, "^\u0000sea 4;");
        CHECK.fault(1, "sea 4;^\u00ff");
        CHECK.reads("2 a NAME to be given that is there already, at its first byte;");
        CHECK.fault(2, "sea 4;harbor h at 0 purse 0 depth 0;moon  ^h at 9");
        CHECK.reads("3 a NAME that is none of what is asked, or the second HARBOR that is the first one, at its first byte;");
        CHECK.fault(3, "sea 4;" + MOON + HARBOR + "owes ^m h 1;");
        CHECK.fault(3, "sea 4;" + MOON + HARBOR + "owes h ^m 1;");
        CHECK.fault(3, "sea 4;" + MOON + HARBOR + "owes h ^h 1;");
        CHECK.fault(3, "sea 4;" + MOON + HARBOR + "pays h ^h 1;");
        CHECK.fault(3, "sea 4;" + MOON + HARBOR + "pays h ^mm 1;");
        CHECK.reads("4 a NUMBER that can't be (a PLACE that has a HARBOR, too), at its first byte;");
        CHECK.fault(4, "sea 4;" + HARBOR + "harbor i at ^1 purse");
        CHECK.fault(4, "sea 4;" + HARBOR + "harbor i at ^0001 purse");
        CHECK.fault(4, "sea 4;" + HARBOR + "harbor i at ^9999 purse");
        CHECK.reads("5 the 8th ( [ not that is open at once (not until its FACT ends), at it;");
        CHECK.fault(5, "sea 4;pull " + "(".repeat(7) + "^(1;");
        CHECK.fault(5, "sea 4;pull min(1,max" + "(".repeat(6) + "^(1;");
        CHECK.fault(5, "sea 4;clause " + "[".repeat(3) + "not not not (^(1;");
        CHECK.fault(5, "sea 4;clause " + "[".repeat(4) + "not not not ^[all;");
        CHECK.fault(5, "sea 4;clause " + "[".repeat(4) + "not not not ^not all;");
        CHECK.due("seven", Check.sea(new MoonTender(), "sea 4;clause not [not [not [(1)=1]]];"), 2);
        CHECK.due("not ends with its fact", Check.sea(new MoonTender(),
                "sea 4;clause " + "not ".repeat(7) + "all and " + "not ".repeat(7) + "all or " + "[".repeat(7) + "all"
                        + "]".repeat(7) + ";pull " + "(".repeat(7) + "1" + ")".repeat(7) + "+" + "(".repeat(7) + "1"
                        + ")".repeat(7) + ";"), 3);
        CHECK.reads("6 one too many of a kind of STATEMENT (a second pull, earns, too), or the 81st STATEMENT (whatever it"
                + " is), at its first byte. ```");
        CHECK.fault(6, "sea 4;pull 1; ^pull ?");
        CHECK.fault(6, "sea 4;earns 1;level 3;\n^earns");
        CHECK.fault(6, "sea 4;" + "sulk 1;".repeat(79) + " ^sulk 0;");
        CHECK.fault(6, "sea 4;" + "sulk 1;".repeat(79) + "^?");
        CHECK.fault(6, "sea 4;" + "sulk 1;".repeat(79) + "^sea 4;");
        CHECK.fault(6, "sea 4;" + "sulk 1;".repeat(79) + "^;");
    }

    private static void heights() {
        CHECK.reads("II. A MOON SULKS, if what is DUE to it from all HARBORS is sulk or more.");
        MoonTender s = CHECK.sea("sea 4;" + MOON + "harbor h at 0 purse 0 depth 0;harbor i at 1 purse 0 depth 0;"
                + "pays h m 2;pays i m 3;sulk 10;");
        for (int t = 0; t < 4; t++) {
            CHECK.due("due in hour " + t, s.moon(0, 4), 5 * t);
            CHECK.due("sulks in hour " + t, s.moon(0, 5), t >= 2 ? 1 : 0);
            s.hours(1);
        }
        CHECK.reads("PULL of a MOON on a PLACE: its SUM, -99 .. 99 (below is -99, above 99; 0 without pull).");
        int[] sums = {-100, -99, -98, 98, 99, 100};
        int[] pulls = {-99, -99, -98, 98, 99, 99};
        for (int k = 0; k < 6; k++) {
            sumIs(sums[k] < 0 ? "0-" + -sums[k] : "" + sums[k], pulls[k]);
        }
        CHECK.due("without pull", CHECK.sea("sea 4;" + MOON).pull(0, 0), 0);
        CHECK.reads("HEIGHT of a PLACE: level, and the PULLS of all MOONS on it together, less its part of the PULLS on all"
                + " PLACES together, T: floor(T / PLACES), and 1 more for each PLACE whose number is below what is left by"
                + " that.");
        MoonTender x = CHECK.sea("sea 5;level 3;moon a at 0 goes 0 temper 0;moon b at 1 goes 0 temper 0;pull 4-far*3;");
        int[] byA = {4, 1, -2, -2, 1};
        int[] byB = {1, 4, 1, -2, -2};
        int[] height = {7, 7, 1, -2, 2};
        for (int p = 0; p < 5; p++) {
            CHECK.due("pull of a on " + p, x.pull(0, p), byA[p]);
            CHECK.due("pull of b on " + p, x.pull(1, p), byB[p]);
            CHECK.due("T is 4, so the first four places lose 1: " + p, x.height(p, 0), height[p]);
        }
        MoonTender y = CHECK.sea("sea 5;level 3;moon a at 0 goes 0 temper 0;pull 0-min(1,far)*2;");
        int[] below = {3 + 2 - 1 + 0, 3 - 2 + 2 - 1, 3 - 2 + 2, 3 - 2 + 2, 3 - 2 + 2};
        for (int p = 0; p < 5; p++) {
            CHECK.due("T is -8: floor -2, 2 left: " + p, y.height(p, 0), below[p]);
        }
        CHECK.reads("(So all HEIGHTS together are PLACES times level.)");
        int together = 0;
        for (int p = 0; p < 5; p++) {
            together += x.height(p, 0) + y.height(p, 0);
        }
        CHECK.due("twice five times 3", together, 30);
    }

    private static void hour() {
        CHECK.reads("```text AN HOUR: HEIGHTS are as MOONS stand, bids and DUES are.");
        MoonTender x = CHECK.sea("sea 4;moon m at 0 goes 1 temper 0;" + "harbor h at 2 purse 5 depth 20;"
                + "pays h m 4;pull (paid-due)*(1-min(1,far));clause height<21;");
        int[] pulledAt = {0, 1, 2, 3, 0, 1};
        int[] pulled = {4, 4, 0, -4, -8, -12};
        for (int t = 0; t < 6; t++) {
            for (int p = 0; p < 4; p++) {
                int want = 20 - pulled[t] / 4 + (p == pulledAt[t] ? pulled[t] : 0);
                CHECK.due("height(" + p + ", " + t + ")", x.height(p, t), want);
            }
        }
        CHECK.reads("STRANDED is a HARBOR whose HEIGHT is below its depth.");
        int[] stranded = {1, 1, 0, 0, 0, 0};
        for (int t = 0; t < 6; t++) {
            CHECK.due("stranded in " + t, x.ahead(0, t, 1), stranded[t]);
        }
        CHECK.reads("BROKEN is a CLAUSE by a HARBOR for which its TEST does not hold (as all is at the HOUR's beginning).");
        CHECK.due("height is 21 in hour 3 first", x.broken(0), 3);
        MoonTender b = CHECK.sea("sea 4;" + HARBOR + "earns 5;clause purse<12;");
        CHECK.due("purse 7 holds in hour 0, 12 does not in hour 1", b.broken(0), 1);

        CHECK.reads("Then each HARBOR, by numbers, earns: its SUM, 0 .. 99 (below is 0, above 99; 0 without earns; by the"
                + " purse it has then; 9999 at most in a purse, what is more is lost).");
        int[] earns = {-1, 0, 1, 98, 99, 100};
        int[] earned = {0, 0, 1, 98, 99, 99};
        for (int k = 0; k < 6; k++) {
            String sum = earns[k] < 0 ? "0-" + -earns[k] : "" + earns[k];
            CHECK.due("earns " + sum, CHECK.sea("sea 4;" + HARBOR + "earns " + sum + ";").ahead(0, 1, 0), 7 + earned[k]);
        }
        CHECK.due("without earns", CHECK.sea("sea 4;" + HARBOR).ahead(0, 1, 0), 7);
        MoonTender d = CHECK.sea("sea 4;" + HARBOR + "earns purse;");
        CHECK.due("by the purse", d.ahead(0, 3, 0), 56);
        MoonTender r = CHECK.sea("sea 4;" + HARBOR + "earns 99;");
        CHECK.due("a hundred hours", r.hours(100), 100);
        CHECK.due("a hundred times 99", r.harbor(0, 1), 9907);
        CHECK.due("more is lost", r.ahead(0, 1, 0), 9999);
        CHECK.due("and stays so", r.ahead(0, 2, 0), 9999);

        pays();
        CHECK.reads("Then MOONS go, and the HOUR is one more (9999 at most; 0 at first).");
        MoonTender g = CHECK.sea("sea 7;moon m at 5 goes 3 temper 0;");
        CHECK.due("at first", g.has(7), 0);
        for (int t = 1; t <= 7; t++) {
            CHECK.due("hour", g.hours(1), t);
            CHECK.due("place", g.moon(0, 0), (5 + 3 * t) % 7);
        }
        for (int t = 207; t < 9999; t += 200) {
            g.hours(200);
        }
        CHECK.due("near the last hour", g.hours(9999 - g.has(7)), 9999);
        CHECK.due("it is the last one", g.hours(1), -1);
    }

    private static void pays() {
        CHECK.reads("Then HARBOR by HARBOR, MOON by MOON: if its purse has its bid, it pays it, else that is DUE (9999 at"
                + " most); then, if anything is DUE to that MOON from it and its purse has all of that, it pays that, too.");
        MoonTender x = CHECK.sea("sea 4;moon a at 0 goes 0 temper 0;moon b at 0 goes 0 temper 0;harbor h at 0 purse 5 depth 0;"
                + "harbor i at 1 purse 3 depth 0;pays h a 4;pays h b 3;pays i a 3;pays i b 2;earns (hour+1)*(2-place*2);");
        // h: 5+2-4-3 = 0; 0+4-4 = 0 and 3 due; 0+6-4 = 2, 3 more due are 6; 2+8-4 = 6, 6-3 = 3, 6 due are too many
        int[] earned = {2, 4, 6, 8};
        int[] purseH = {0, 0, 2, 3};
        int[] dueB = {0, 3, 6, 6};
        int[] dueIa = {0, 3, 6, 9};
        int[] dueIb = {2, 4, 6, 8};
        for (int t = 0; t < 4; t++) {
            x.hours(1);
            CHECK.due("h has earned " + earned[t], x.harbor(0, 1), purseH[t]);
            CHECK.due("due from h to a", x.bids(0, 0, 1), 0);
            CHECK.due("due from h to b", x.bids(0, 1, 1), dueB[t]);
            CHECK.due("i has nothing", x.harbor(1, 1), 0);
            CHECK.due("due from i to a", x.bids(1, 0, 1), dueIa[t]);
            CHECK.due("due from i to b", x.bids(1, 1, 1), dueIb[t]);
        }
        x.hours(1);
        CHECK.due("h: 3 and 10, less 4, less 3, less the 6 that are due", x.harbor(0, 1), 0);
        CHECK.due("nothing is due then", x.bids(0, 1, 1), 0);
        MoonTender y = CHECK.sea("sea 4;" + MOON + "harbor h at 0 purse 0 depth 0;pays h m 20;");
        for (int t = 0; t < 400; t += 100) {
            y.hours(100);
        }
        CHECK.due("400 times 20", y.bids(0, 0, 1), 8000);
        y.hours(99);
        CHECK.due("99 times more", y.bids(0, 0, 1), 9980);
        CHECK.due("at most", y.hours(1) == 500 && y.bids(0, 0, 1) == 9999, true);
        y.hours(1);
        CHECK.due("still", y.bids(0, 0, 1), 9999);
    }

    private static void acts() {
        CHECK.reads("ACTS: a bid is another one; coins are given from HARBOR to HARBOR; a MOON's temper is another one; HOURS"
                + " go by;");
        MoonTender x = CHECK.sea(Example.SEA);
        CHECK.due("bid", x.bid(0, 0, 7), 3);
        CHECK.due("give", x.give(0, 2, 4), true);
        CHECK.due("soothe", x.soothe(1, 0), 5);
        CHECK.due("acts", x.has(10), 3);
        CHECK.due("the bid", x.bids(0, 0, 0), 7);
        CHECK.due("from", x.harbor(0, 1), 6);
        CHECK.due("to", x.harbor(2, 1), 4);
        CHECK.due("temper", x.moon(1, 2), 0);
        CHECK.due("hours are one act", x.hours(3) == 3 && x.has(10) == 4, true);
        CHECK.reads("STORMS: HOURS ahead of each of which a DRAW of the MOONS, then a DRAW of 10 are made: that MOON's temper"
                + " is the second one (without MOONS none).");
        MoonTender s = CHECK.sea("sea 4;moon a at 0 goes 0 temper 1;moon b at 0 goes 0 temper 2;moon c at 0 goes 0 temper 3;");
        // 1103527590 / 64 is 17242618, 1 mod 3; 377401575 / 64 is 5896899
        CHECK.due("storms(1)", s.storms(1), 1);
        CHECK.due("the seed is drawn twice", s.has(11), 377401575);
        CHECK.due("moon a", s.moon(0, 2), 1);
        CHECK.due("moon b", s.moon(1, 2), 9);
        CHECK.due("moon c", s.moon(2, 2), 3);
        // 662824084 / 64 is 10356626, 2 mod 3; 1147902781 / 64 is 17935980
        CHECK.due("storms(1)", s.storms(1), 2);
        CHECK.due("the seed again", s.has(11), 1147902781);
        CHECK.due("moon c then", s.moon(2, 2), 0);
        CHECK.due("moon b still", s.moon(1, 2), 9);
        MoonTender e = CHECK.sea("sea 4;" + HARBOR + "earns 1;");
        CHECK.due("without moons", e.storms(2), 2);
        CHECK.due("none is drawn", e.has(11), 1);
        CHECK.due("but the hours go by", e.harbor(0, 1), 9);
        MoonTender f = CHECK.sea("sea 4;" + MOON + HARBOR + "pull temper*(1-min(1,far));earns height-10;");
        f.storms(1);
        // the DRAW is ahead of the HOUR: temper 9 pulls 9, T is 9, so PLACE 1 has 20 - 2
        CHECK.due("heights by the new temper", f.harbor(0, 1), 7 + 8);
        CHECK.reads("The last 20 can be undone.");
        MoonTender u = CHECK.sea("sea 4;" + MOON + HARBOR);
        for (int n = 1; n <= 21; n++) {
            u.bid(0, 0, n % 21);
        }
        CHECK.due("twenty", u.has(10), 20);
        for (int n = 20; n >= 1; n--) {
            CHECK.due("undo", u.undo(), true);
            CHECK.due("the bid", u.bids(0, 0, 0), n);
        }
        CHECK.due("no more", u.undo(), false);
        CHECK.reads("A DRAW of m: x (the seed) becomes (1103515245 x + 12345) mod 2 to the 31; floor(x / 64) mod m. ```");
        int[] seeds = {0, 1, 2, 64, 1000000, 2147483647};
        for (int seed : seeds) {
            MoonTender d = CHECK.sea("sea 4;moon a at 0 goes 0 temper 1;moon b at 0 goes 0 temper 2;");
            d.seed(seed);
            long first = Math.floorMod(1103515245L * seed + 12345, 1L << 31);
            long second = Math.floorMod(1103515245L * first + 12345, 1L << 31);
            d.storms(1);
            int moon = (int) (first / 64 % 2);
            CHECK.due("seed after " + seed, d.has(11), second);
            CHECK.due("the moon drawn by " + seed, d.moon(moon, 2), second / 64 % 10);
            CHECK.due("the other one", d.moon(1 - moon, 2), moon == 0 ? 2 : 1);
        }
    }

    private static void ahead() {
        CHECK.reads("III. AHEAD are HOURS as they go by from now on without other ACTS (0: now; 48 at most; not beyond HOUR"
                + " 9999).");
        MoonTender x = CHECK.sea(Example.SEA);
        MoonTender y = CHECK.sea(Example.SEA);
        for (int t = 0; t <= 48; t++) {
            for (int p = 0; p < 6; p++) {
                CHECK.due("height(" + p + ", " + t + ")", x.height(p, t), y.height(p, 0));
            }
            for (int h = 0; h < 3; h++) {
                CHECK.due("ahead(" + h + ", " + t + ", 0)", x.ahead(h, t, 0), y.harbor(h, 1));
            }
            y.hours(1);
        }
        CHECK.due("49", x.height(0, 49), MoonTender.NOTHING);
        CHECK.due("-1", x.height(0, -1), MoonTender.NOTHING);
        Check.withHour(x, 9990);
        CHECK.due("hour 9999", x.height(0, 9) != MoonTender.NOTHING, true);
        CHECK.due("hour 10000", x.height(0, 10), MoonTender.NOTHING);

        CHECK.reads("WISHED: the bids of a HARBOR (0 .. 10 for each MOON, in place of its own) with the least sum by which its"
                + " HEIGHT now is so much, or more; of like ones the first by MOONS.");
        // HEIGHT of h, were its bids p, q: 21 + p - ceil((p + q + 4) / 6)
        MoonTender w = CHECK.sea(Example.SEA);
        int[] wished = {20, 0, 0, 21, 1, 1, 22, 2, 2, 23, 4, 4, 24, 5, 5, 27, 8, 8, 28, 10, 10};
        for (int k = 0; k < wished.length; k += 3) {
            CHECK.due("sum for " + wished[k], w.wished(0, wished[k], -1), wished[k + 1]);
            CHECK.due("to a for " + wished[k], w.wished(0, wished[k], 0), wished[k + 2]);
            CHECK.due("to b for " + wished[k], w.wished(0, wished[k], 1), 0);
        }
        CHECK.due("too high", w.wished(0, 29, -1), -1);
        MoonTender v = CHECK.sea("sea 4;moon a at 0 goes 0 temper 0;moon b at 0 goes 0 temper 0;harbor h at 0 purse 0 depth 0;"
                + "pull 4*paid*(1-min(1,far));");
        int[][] like = {{20, 0, 0}, {21, 0, 1}, {23, 0, 1}, {50, 0, 10}, {51, 1, 10}, {80, 10, 10}};
        for (int[] row : like) {
            CHECK.due("sum for " + row[0], v.wished(0, row[0], -1), row[1] + row[2]);
            CHECK.due("to a, as few as can be, for " + row[0], v.wished(0, row[0], 0), row[1]);
            CHECK.due("to b for " + row[0], v.wished(0, row[0], 1), row[2]);
        }
        CHECK.due("above the most", v.wished(0, 81, -1), -1);
    }

    private static void rest() {
        CHECK.reads("```text REST: round by round HARBORS, by numbers, each take the bids (0 .. 4 for each MOON) by which their"
                + " HEIGHT now less the sum of their bids is most (of like ones their own, if these are among them, else the"
                + " first by MOONS), the others' as they are then; until a round in which nobody takes other ones, or 12"
                + " rounds.");
        MoonTender x = CHECK.sea(Example.SEA);
        CHECK.due("all take 0 in the first round", x.rest(-1), 2);
        for (int k = 0; k < 6; k++) {
            CHECK.due("rest(" + (k / 2 * 10 + k % 2) + ")", x.rest(k / 2 * 10 + k % 2), 0);
        }
        // each coin raises PLACE 0 by 4 - 1: so 4 are best; 20 are not among those that may be taken
        MoonTender y = CHECK.sea("sea 4;" + MOON + "harbor h at 0 purse 0 depth 0;pays h m 20;pull 4*paid*(1-min(1,far));");
        CHECK.due("takes 4", y.rest(-1) == 2 && y.rest(0) == 4, true);
        y.bid(0, 0, 4);
        CHECK.due("its own", y.rest(-1) == 1 && y.rest(0) == 4, true);
        MoonTender z = CHECK.sea("sea 4;" + MOON + "harbor h at 0 purse 0 depth 0;pays h m 3;pull paid;");
        CHECK.due("height 20 always: 0 coins are best", z.rest(-1) == 2 && z.rest(0) == 0, true);
        MoonTender l = CHECK.sea("sea 4;" + MOON + "harbor h at 3 purse 0 depth 0;pays h m 3;pull paid*max(0,place-2);");
        // HEIGHT of PLACE 3: 20 + paid - floor(paid / 4): 20, 21, 22, 23, 23; less paid 20, 20, 20, 20, 19
        CHECK.due("its own of like ones", l.rest(-1) == 1 && l.rest(0) == 3, true);
        l.bid(0, 0, 4);
        CHECK.due("else the first", l.rest(-1) == 2 && l.rest(0) == 0, true);
        // h wants an even sum, i an odd one: h, i are 0, 1 then 1, 0 then 0, 1 and so on
        MoonTender n = CHECK.sea("sea 4;" + MOON + "harbor h at 0 purse 0 depth 0;harbor i at 1 purse 0 depth 0;"
                + "pull 50*max(0,1-place)*(1-paid%2)+50*max(0,place%2*(2-place))*(paid%2);");
        CHECK.due("12 rounds are not enough", n.rest(-1), 13);
        CHECK.due("h after 12", n.rest(0), 1);
        CHECK.due("i after 12", n.rest(10), 0);
        CHECK.due("the bids themselves stay", n.bids(0, 0, 0) + n.bids(1, 0, 0), 0);
    }

    private static void ships() {
        CHECK.reads("A SHIP of a draught is at a HARBOR's PLACE. In each HOUR it goes to a PLACE beside it in the ring, or waits;"
                + " it must float: HEIGHT of the PLACE where it is then, in that HOUR, is its draught or more (AHEAD; at its"
                + " beginning, too).");
        MoonTender x = CHECK.sea(Example.SEA);
        CHECK.due("PLACE 0 has 22 now", x.across(0, 0, 22), 0);
        CHECK.due("not 23", x.across(0, 0, 23), -1);
        CHECK.due("it can't wait at PLACE 0 in hour 1, but go on", x.across(0, 1, 22), 3);
        CHECK.due("round the ring, from 5 by 4 to 3", x.across(2, 1, 19), 2);
        CHECK.due("23 is too much at the beginning", x.across(0, 1, 23), -1);
        CHECK.reads("ACROSS: the fewest HOURS till it is at another HARBOR's PLACE.");
        CHECK.due("by 18 all places float", x.across(0, 1, 18), 3);
        CHECK.due("from 0 to 5 by the ring", x.across(0, 2, 18), 1);
        CHECK.due("PLACE 0 has 22 in hour 6 again", x.across(1, 0, 19), 6);
        CHECK.due("and from beside it", x.across(2, 0, 19), 6);
        CHECK.reads("LATEST: the last HOUR AHEAD in which it may set out (floating where it begins then), to be there by the"
                + " 48th.");
        CHECK.due("three hours ahead of the 48th", x.latest(0, 1, 18), 45);
        CHECK.due("PLACE 0 floats in hour 42", x.latest(0, 1, 19), 42);
        CHECK.due("to be at PLACE 0 in the 48th", x.latest(1, 0, 19), 45);
        CHECK.due("where it is", x.latest(0, 0, 19), 48);
        CHECK.due("where it is, by 23", x.latest(0, 0, 23), -1);
        CHECK.due("PLACE 5 has 22 or more in hours 1 and 4 and 5 of six", x.latest(2, 2, 22), 47);
    }

    private static void meetingsAndBanks() {
        CHECK.reads("ALL MEET: the first HOUR from now on (9999 HOURS on at most) in which all MOONS are at one PLACE, and"
                + " which.");
        MoonTender x = CHECK.sea(Example.SEA);
        CHECK.due("hour 3", x.meet(0), 3);
        CHECK.due("place 3", x.meet(1), 3);
        x.hours(3);
        CHECK.due("it is hour 3", x.meet(0), 3);
        x.hours(1);
        CHECK.due("six hours on", x.meet(0), 9);
        CHECK.due("place 3 again", x.meet(1), 3);
        CHECK.due("one alone", CHECK.sea("sea 4;" + MOON).meet(0), 0);
        CHECK.due("never", CHECK.sea("sea 4;" + MOON + "moon n at 1 goes 2 temper 0;").meet(0), -1);

        CHECK.reads("A HARBOR FAILS, if its purse and what those owe it who do not FAIL are less than what it owes: none at"
                + " first; then, again and again, all who fail by that together, till none more.");
        MoonTender y = CHECK.sea(Example.SEA);
        for (int h = 0; h < 3; h++) {
            CHECK.due("h fails by itself, then i, then j: " + h, y.harbor(h, 8), 1);
        }
        CHECK.reads("HELP of a HARBOR: what it lacks, if nobody fails: what it owes less its purse and what it is owed, 0 at"
                + " least.");
        int[] help = {1, 0, 0};
        for (int h = 0; h < 3; h++) {
            CHECK.due("help of " + h, y.harbor(h, 9), help[h]);
        }
        y.give(1, 0, 1);
        for (int h = 0; h < 3; h++) {
            CHECK.due("none fails by that: " + h, y.harbor(h, 8), 0);
            CHECK.due("no help: " + h, y.harbor(h, 9), 0);
        }
    }

    private static void payersAndImages() {
        CHECK.reads("SEEN are rows of PLACE, HEIGHT (now). PAYERS: sets of HARBORS who bid as they do, were all others' bids 0,"
                + " by which the HEIGHTS are just so.");
        MoonTender x = CHECK.sea(Example.SEA);
        Check.see(x, 0, 20, 1, 20, 2, 20, 3, 20, 4, 20, 5, 20);
        CHECK.due("nobody alone", x.payers(0) == 1 && x.payers(2) == 0, true);
        // HEIGHT of PLACE 0 by a set: none 20, h 22, i 19, j 20, h i 22, h j 23, i j 20, all 22
        int[][] byPlace0 = {{19, 1, 2, 2}, {20, 3, 0, 6}, {21, 0, 0, 0}, {22, 3, 1, 7}, {23, 1, 5, 5}};
        for (int[] row : byPlace0) {
            Check.see(x, 0, row[0]);
            for (int what = 0; what < 3; what++) {
                CHECK.due("payers(" + what + ") for " + row[0], x.payers(what), row[1 + what]);
            }
        }
        Check.see(x, 0, 22, 3, 22);
        CHECK.due("all of them alone", x.payers(0) == 1 && x.payers(1) == 7, true);

        CHECK.reads("AN IMAGE: HOUR (two bytes, the higher first); for each MOON its PLACE, its temper; for each HARBOR its"
                + " purse (two bytes), and for each MOON its bid, what is DUE (two bytes); last a byte: all ahead from 89 on,"
                + " c = (5 c + it) mod 251. ```");
        MoonTender y = CHECK.sea(Example.SEA);
        y.hours(5);
        y.soothe(1, 6);
        int[] image = Check.image(0, 5, 5, 2, 1, 6, 0, 1, 3, 0, 3, 0, 0, 0, 0, 4, 0, 0, 0, 2, 0, 0, 0, 0, 1, 0, 0, 1, 0, 4);
        CHECK.due("size", y.image(), image.length);
        for (int k = 0; k < image.length; k++) {
            CHECK.due("octet(" + k + ")", y.octet(k), image[k]);
        }
        MoonTender z = CHECK.sea("sea 4;");
        z.hours(200);
        z.hours(100);
        z.image();
        // 5 * 89 + 1 is 446, 195; 5 * 195 + 44 is 1019, 15
        CHECK.due("1, 44, 15", z.octet(0) == 1 && z.octet(1) == 44 && z.octet(2) == 15, true);
    }

    private static void constants() {
        CHECK.reads("The constants: `NONE = -1`: None; refused.");
        CHECK.due("NONE", MoonTender.NONE, -1);
        CHECK.reads("`NOTHING = -1000000000`: Told where -1 may be a number.");
        CHECK.due("NOTHING", MoonTender.NOTHING, -1000000000);
        CHECK.reads("Ahead of the calls `pull`, `height`, `ahead`, `broken`, `stranded` the interface says: ---- heights.");
        CHECK.reads("Ahead of the calls `bid`, `give`, `soothe`, `hours`, `storms`, `undo`, `seed` the interface says: ---- acts.");
        CHECK.reads("Ahead of the calls `wished`, `rest` the interface says: ---- bidding.");
        CHECK.reads("Ahead of the calls `across`, `latest`, `meet` the interface says: ---- ships, meetings.");
        CHECK.reads("Ahead of the calls `see`, `payers` the interface says: ---- who paid.");
        CHECK.reads("Ahead of the calls `image`, `octet`, `on`, `status` the interface says: ---- images, refusals.");
    }
}
