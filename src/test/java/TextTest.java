/** Promises 1 to 5: a new object, the tape, the text of a SEA and its FAULTS. */
public final class TextTest {
    private static final Check CHECK = new Check();
    private static final String MOON = "moon m at 0 goes 0 temper 0;";
    private static final String HARBOR = "harbor h at 0 purse 0 depth 0;";
    private static final String BASE = "sea 4;" + MOON + HARBOR;

    public static void main(String[] args) {
        promise1();
        promise2();
        promise3();
        promise4();
        promise4Anew();
        promise4Counts();
        promise5();
        faultOne();
        faultOneInSums();
        faultTwoAndThree();
        faultFour();
        faultFive();
        faultSix();
        CHECK.finish("TextTest");
    }

    private static void promise1() {
        MoonTender x = new MoonTender();
        int[] has = {0, 0, 0, 0, 0, 20, 50, 0, 0, 0, 0, 1};
        for (int what = 0; what < has.length; what++) {
            CHECK.due("new: has(" + what + ")", x.has(what), has[what]);
        }
        for (int what = 0; what <= 5; what++) {
            CHECK.due("new: moon(0, " + what + ")", x.moon(0, what), -1);
            CHECK.due("new: status(" + what + ")", x.status(what), 0);
        }
        CHECK.due("new: harbor(0, 0)", x.harbor(0, 0), -1);
        CHECK.due("new: bids(0, 0, 0)", x.bids(0, 0, 0), -1);
        CHECK.due("new: letter(0, 0, 0)", x.letter(0, 0, 0), -1);
        CHECK.due("new: pull(0, 0)", x.pull(0, 0), -1000000000);
        CHECK.due("new: height(0, 0)", x.height(0, 0), -1000000000);
        CHECK.due("new: ahead(0, 0, 0)", x.ahead(0, 0, 0), -1);
        CHECK.due("new: broken(0)", x.broken(0), -1);
        CHECK.due("new: stranded(0, 0)", x.stranded(0, 0), -1);
        CHECK.due("new: wished(0, 0, -1)", x.wished(0, 0, -1), -1);
        CHECK.due("new: rest(-1)", x.rest(-1), -1);
        CHECK.due("new: across(0, 0, 0)", x.across(0, 0, 0), -1);
        CHECK.due("new: latest(0, 0, 0)", x.latest(0, 0, 0), -1);
        CHECK.due("new: meet(0)", x.meet(0), -1);
        CHECK.due("new: payers(0)", x.payers(0), -1);
        CHECK.due("new: octet(0)", x.octet(0), -1);
        CHECK.due("new: fault(0)", x.fault(0), 0);
        CHECK.due("new: fault(1)", x.fault(1), -1);
    }

    private static void promise2() {
        MoonTender x = new MoonTender();
        CHECK.due("feed of a sea", x.feed(0x73656120, 0x343b2020, 0x20202020, 0x20202020, 0x6c65766c), 20);
        CHECK.due("end(16)", x.end(16), true);
        CHECK.due("sea() by bytes, the highest first", x.sea(), 1);
        for (int n = 20; n <= 1600; n += 20) {
            CHECK.due("feed up to " + n, x.feed(-1, 0, 1, Integer.MIN_VALUE, Integer.MAX_VALUE), n);
        }
        CHECK.due("feed beyond 1600", x.feed(0, 0, 0, 0, 0), -1);
        CHECK.due("status(0)", x.status(0), 1);
        CHECK.due("the tape stays", x.end(1600), true);
        CHECK.due("end(1581)", x.end(1581), true);
        CHECK.due("feed beyond 1600 by one", x.feed(0, 0, 0, 0, 0), -1);
        CHECK.due("end(1580)", x.end(1580), true);
        CHECK.due("feed up to 1600 again", x.feed(0, 0, 0, 0, 0), 1600);
        CHECK.due("status(0)", x.status(0), 2);
        x.end(0);
        x.feed(-1, -1, -1, -1, -1);
        CHECK.due("sea() of bytes 255", x.sea(), -1);
        CHECK.due("its fault", x.fault(0), 1);
        CHECK.due("its place", x.fault(1), 0);
    }

    private static void promise3() {
        MoonTender x = new MoonTender();
        CHECK.due("end(0) of none", x.end(0), true);
        CHECK.due("end(1) of none", x.end(1), false);
        x.feed(1, 2, 3, 4, 5);
        CHECK.due("end(21) of 20", x.end(21), false);
        CHECK.due("end(-1)", x.end(-1), false);
        CHECK.due("end(least)", x.end(Integer.MIN_VALUE), false);
        CHECK.due("end(most)", x.end(Integer.MAX_VALUE), false);
        CHECK.due("status(0)", x.status(0), 5);
        CHECK.due("feed", x.feed(1, 2, 3, 4, 5), 40);
        CHECK.due("end(40)", x.end(40), true);
        CHECK.due("end(7)", x.end(7), true);
        CHECK.due("end(8) after end(7)", x.end(8), false);
        CHECK.due("feed", x.feed(1, 2, 3, 4, 5), 27);
    }

    private static void promise4() {
        MoonTender x = new MoonTender();
        CHECK.due("sea", Check.sea(x, BASE + "pays h m 2;harbor i at 1 purse 9 depth 0;"), 5);
        CHECK.due("the tape goes", x.end(1), false);
        x.seed(77);
        x.hours(3);
        x.bid(0, 0, 5);
        Check.see(x, 0, 20);
        CHECK.due("due ahead of it", x.has(9), 6);
        String before = Check.all(x);
        CHECK.due("a bad sea", Check.sea(x, "sea 4;moon"), -1);
        CHECK.due("status(1)", x.status(1), 1);
        CHECK.same("a bad sea", Check.all(x), before);
        CHECK.due("the tape goes with a fault, too", x.feed(0, 0, 0, 0, 0), 20);
        x.end(0);
        CHECK.due("a sea without a statement", x.sea(), -1);
        CHECK.due("status(1)", x.status(1), 2);
        CHECK.due("another sea", Check.sea(x, "\n sea\n 5\n;  "), 1);
        CHECK.due("places", x.has(0), 5);
        CHECK.due("moons", x.has(1), 0);
        CHECK.due("harbors", x.has(2), 0);
        CHECK.due("hour", x.has(7), 0);
        CHECK.due("coins", x.has(8), 0);
        CHECK.due("due", x.has(9), 0);
        CHECK.due("acts", x.has(10), 0);
        CHECK.due("the seed stays", x.has(11), 77);
        CHECK.due("nothing is seen", x.payers(0), -1);
        CHECK.due("undo", x.undo(), false);
        Check.sea(x, "sea 4;level 1;sulk 2;");
        Check.sea(x, "sea 4;");
        CHECK.due("level is 20 again", x.has(5), 20);
        CHECK.due("sulk is 50 again", x.has(6), 50);
    }

    /** Each text begins anew, however many were told ahead of it. */
    private static void promise4Anew() {
        MoonTender x = new MoonTender();
        String full = "sea 9;level 1;sulk 2;moon m at 5 goes 3 temper 7;moon n at 6 goes 3 temper 8;"
                + "harbor h at 7 purse 5 depth 3;harbor i at 8 purse 6 depth 3;pays h m 4;pays i n 6;"
                + "owes h i 5;owes i h 7;clause 1<0;clause all;pull paid;earns 9;";
        for (int i = 0; i < 3; i++) {
            CHECK.due("a full sea", Check.sea(x, full), 15);
            x.hours(4);
        }
        for (int i = 0; i < 2; i++) {
            CHECK.due("a small one", Check.sea(x, "sea 8;" + MOON + HARBOR), 3);
            int[] has = {8, 1, 1, 0, 0, 20, 50, 0, 0, 0, 0, 1};
            for (int what = 0; what < has.length; what++) {
                CHECK.due("of the small one: has(" + what + ")", x.has(what), has[what]);
            }
            CHECK.due("its bid", x.bids(0, 0, 0), 0);
            CHECK.due("its pull", x.pull(0, 0), 0);
            CHECK.due("its earnings", x.ahead(0, 1, 0), 0);
            CHECK.due("its clauses", x.broken(0), -1);
        }
        Check.sea(x, full);
        Check.sea(x, "sea 9;moon n at 0 goes 0 temper 0;harbor h at 0 purse 0 depth 0;harbor j at 1 purse 0 depth 0;");
        CHECK.due("no bid is left over", x.has(8) + x.moon(0, 3) + x.harbor(0, 6), 0);
    }

    private static void promise4Counts() {
        MoonTender x = new MoonTender();
        CHECK.due("80 statements", Check.sea(x, "sea 4;" + "level 7;".repeat(79)), 80);
        CHECK.due("the last level counts", Check.sea(x, "sea 4;level 7;level 0;sulk 9;sulk 999;"), 5);
        CHECK.due("level", x.has(5), 0);
        CHECK.due("sulk", x.has(6), 999);
        CHECK.due("the last pays counts", Check.sea(x, BASE + "pays h m 7;pays h m 20;pays h m 3;"), 6);
        CHECK.due("bids", x.bids(0, 0, 0), 3);
        CHECK.due("all sorts", Check.sea(x, "sea 24;moon a at 23 goes 23 temper 9;moon b at 0 goes 0 temper 0;"
                + "moon abcdef at 5 goes 1 temper 1;harbor c at 23 purse 999 depth 99;harbor d at 0 purse 0 depth 0;"
                + "pays c a 20;pays d a 0;owes c d 999;owes d c 1;clause all;pull 9999;earns 0;level 99;sulk 1;"), 15);
    }

    private static void promise5() {
        MoonTender x = new MoonTender();
        for (int what = 2; what <= 4; what++) {
            CHECK.due("fault(" + what + ")", x.fault(what), -1);
        }
        CHECK.due("fault(-1)", x.fault(-1), -1);
        Check.sea(x, "sea 3;");
        CHECK.due("fault(0)", x.fault(0), 4);
        CHECK.due("fault(1)", x.fault(1), 4);
        CHECK.due("fault(0) again", x.fault(0), 4);
        Check.sea(x, "sea 4;");
        CHECK.due("fault(0) of a good one", x.fault(0), 0);
        CHECK.due("fault(1) of a good one", x.fault(1), -1);
    }

    private static void fault(int code, String marked) {
        CHECK.fault(code, marked);
    }

    private static void good(String text) {
        CHECK.sea(text);
    }

    private static void faultOne() {
        String[] texts = {"^", "  ^", "\n^", "^;", "^4", "^se 4;", "^moon m", "^Sea 4;", "^seas 4;", "sea^", "sea^4;",
            "sea 4^", "sea 4 \n^", "sea ^;", "sea ^a;", "sea 4^.", "sea 4;^;", "sea 4;^sea 5;", "sea 4;^x 7;",
            "sea 4;^7;", "sea 4;level 7^", "sea 4;^at 0;", "sea 4;level^7;", "sea 4;level ^level;", "sea 4;level^\t7;",
            "sea 4 ^5;", "sea 4; ^-1;", "sea 4;level ^-1;", "sea 1234^5;", "sea 1000^0;", "sea 4;level 0000^0;", "sea 4;level 0000^9;", "sea 4;moon abcdef^a", "sea 4;moon abcdef^z",
            "sea 4;moon m ^0 goes 1 temper 2;", "sea 4;moon m at 0 ^1 temper 2;", "sea 4;moon m at 0 goes 1 ^2;",
            "sea 4;harbor h ^0 purse 1 depth 2;", "sea 4;pays ^5;", "sea 4;owes ^5;", BASE + "pays h ^5;",
            BASE + "pays h^5", BASE + "owes h ^5;", "sea 4;level 0000^7;", "sea 4;abcdef^g",
            "sea 4;level abcdef^ghi", "sea 4;level 7^or;", "sea 4;level 7 ^or;", "sea 4;level 7;^;",
            "sea 4;moon ^7 at", "sea 4;moon ^at at 0", "sea 4;moon ^max", "sea 4;moon abcdef^g at 0",
            "sea 4;moon m ^to 0", "sea 4;moon m^", "sea 4;moon m at ^m", "sea 4;moon m at 0 ^temper 0",
            "sea 4;moon m at 0 goes 1 temper 2^", "sea 4;moon m^0", "sea 4;moon m at^0",
            "sea 4;harbor h at 0 ^depth 0", "sea 4;harbor h at 0 purse 0 ^;", "sea 4;pays ^pays", "sea 4;owes ^;",
            "sea 4;level 7;^\u00e9", "sea 4;^\0", "sea 4;^LEVEL 7;", "sea 4;^{", "^\rsea 4;"};
        for (String text : texts) {
            fault(1, text);
        }
        good("sea 0004;level 0007;");
        good("sea\n4\n;\nlevel\n7\n;\n");
    }

    private static void faultOneInSums() {
        String[] texts = {"pull ^;", "pull 1+^;", "pull ^-1;", "pull 1 ^2;", "pull 1^)", "pull (1^;", "pull (^)",
            "pull ^all;", "pull ^not 1;", "pull ^m;", "pull ^moon;", "pull ^[1];", "pull min ^1", "pull min^;", "pull max^+1;", "pull min(1^)",
            "pull min(1,2^,3)", "pull ^or;", "pull 1^<2;", "pull min(^,2)", "pull 1*^/2", "pull 1*^*2", "pull 1000^0;",
            "clause 1^;", "clause ^;", "clause (1^<2);", "clause [1<2^", "clause [1<2^)", "clause 1<2^<3;",
            "clause 1<^;", "clause 1<2 or ^;", "clause 1<2 and ^or 1<2;", "clause not^;", "clause all ^all;",
            "clause 1=^=2;", "clause [1^]<2;", "clause all^<2;", "clause 1 ^;", "earns ^;", "earns 1^=1;",
            "clause not^1<2;", "clause 1<2^or 1<2;", "pull paid^2;", "pull 2^paid;", "pull ^level;", "pull ^sulk;"};
        for (String text : texts) {
            fault(1, "sea 4;" + text);
        }
        good("sea 4;pull ( 1+2 )*min ( 3 , max(4,5) )/6%7-height-depth-purse-paid-due-far-temper-sulks-rival;");
        good("sea 4;earns hour+place;clause not[1<2 and 2=2 or not all]or[all];clause[all];clause not not all;");
    }

    private static void faultTwoAndThree() {
        fault(2, BASE + "moon ^m at");
        fault(2, BASE + "moon ^h at");
        fault(2, BASE + "harbor ^h");
        fault(2, BASE + "harbor ^m at 9");
        good(BASE + "moon hm at 0 goes 0 temper 0;harbor mh at 1 purse 0 depth 0;");
        good("sea 4;moon abcdef at 0 goes 0 temper 0;moon abcdeg at 0 goes 0 temper 0;moon abcde at 0 goes 0 temper 0;");
        fault(3, "sea 4;pays ^h m 1;" + MOON + HARBOR);
        fault(3, BASE + "pays ^m m 1;");
        fault(3, BASE + "pays ^x");
        fault(3, BASE + "pays h ^h 1;");
        fault(3, BASE + "pays h ^x 1;");
        fault(1, BASE + "pays h ^;");
        fault(1, BASE + "pays h m ^m;");
        fault(3, BASE + "owes ^m h 1;");
        fault(3, BASE + "owes h ^m 1;");
        fault(3, BASE + "owes h ^h 1;");
        fault(3, BASE + "owes h ^i 1;harbor i at 1 purse 0 depth 0;");
        fault(1, BASE + "owes h ^temper 1;");
    }

    private static void faultFour() {
        String[] texts = {"sea ^0", "sea ^3;", "sea ^25;", "sea ^9999;", "sea ^003;", "sea 4;moon m at ^4 goes",
            "sea 24;moon m at ^24", "sea 4;moon m at 3 goes ^24 ", "sea 4;moon m at 3 goes 23 temper ^10;",
            "sea 4;harbor h at ^4", "sea 4;harbor h at 3 purse ^1000", "sea 4;harbor h at 3 purse 0 depth ^100;",
            BASE + "harbor i at ^0 purse", BASE + "harbor i at ^00", BASE + "harbor i at 1 purse 0 depth 0;harbor j at ^1",
            BASE + "pays h m ^21;", BASE + "harbor i at 1 purse 0 depth 0;owes h i ^0;",
            BASE + "harbor i at 1 purse 0 depth 0;owes i h ^1000;", "sea 4;level ^100;", "sea 4;sulk ^0;",
            "sea 4;sulk ^1000;"};
        for (String text : texts) {
            fault(4, text);
        }
        good(BASE + "moon n at 0 goes 0 temper 0;");
    }

    private static void faultFive() {
        String[] good = {"clause " + "not ".repeat(7) + "all;", "clause " + "[".repeat(7) + "all" + "]".repeat(7) + ";",
            "pull " + "(".repeat(7) + "1" + ")".repeat(7) + ";", "pull " + "((((((1))))))+".repeat(3) + "(((((((1)))))));",
            "clause not not not not not not not all and not not all or [[[[[[[all]]]]]]];",
            "pull " + "max(1,".repeat(7) + "1" + ")".repeat(7) + ";",
            "clause not [not [not [min(1,2)<2]]];"};
        for (String text : good) {
            good("sea 4;" + text);
        }
        fault(5, "sea 4;clause " + "not ".repeat(7) + "^not all;");
        fault(5, "sea 4;clause " + "[".repeat(7) + "^[all");
        fault(5, "sea 4;pull " + "(".repeat(7) + "^(1");
        fault(5, "sea 4;pull " + "max(1,".repeat(7) + "min^(1");
        fault(5, "sea 4;clause not [not [not [(1)+min(2,3)*(1)<max(1,^(2)");
        fault(5, "sea 4;clause not [not [not [not ^[all");
        fault(5, "sea 4;clause 1<2 and [[[[[[[1<2]]]]]]] or [[[[[[[1<^(2)");
        fault(1, "sea 4;clause " + "[".repeat(7) + "^;");
        MoonTender x = new MoonTender();
        for (int i = 0; i < 3; i++) {
            Check.sea(x, "sea 4;clause " + "[".repeat(7) + ";");
            CHECK.due("fault in the midst of seven open ones", x.fault(0), 1);
            CHECK.due("seven open ones behind it", Check.sea(x, "sea 4;clause " + "not ".repeat(7) + "all;"), 2);
        }
    }

    private static String many(String statement, int from, int count) {
        StringBuilder s = new StringBuilder();
        for (int i = from; i < from + count; i++) {
            s.append(statement.replace("?", "" + i).replace("!", "" + (char) ('a' + i)));
        }
        return s.toString();
    }

    private static void faultSix() {
        String three = "sea 9;" + many("moon m! at 0 goes 0 temper 0;", 0, 3);
        good(three);
        fault(6, three + "^moon");
        String eight = "sea 9;" + many("harbor h! at ? purse 0 depth 0;", 0, 8);
        good(eight);
        fault(6, eight + " ^harbor h");
        good(eight + "owes ha hb 1;".repeat(16));
        fault(6, eight + "owes ha hb 1;".repeat(16) + "^owes ha ha 0;");
        good("sea 4;" + "clause all;".repeat(6));
        fault(6, "sea 4;" + "clause all;".repeat(6) + "^clause;");
        fault(6, "sea 4;pull 1;^pull 2;");
        fault(6, "sea 4;earns 1;pull 1;^earns;");
        String eighty = "sea 4;" + "level 7;".repeat(79);
        fault(6, eighty + "^level 7;");
        fault(6, eighty + " \n^sea 4;");
        fault(6, eighty + "^;");
        fault(6, eighty + "^#");
        fault(6, eighty + "^abcdefgh");
        good(eighty + " \n ");
        fault(1, "sea 4;" + "level 7;".repeat(78) + "level 7^");
    }
}
