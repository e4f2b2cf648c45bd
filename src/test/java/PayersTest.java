/** Promises 28 and 29: what is SEEN, and who paid. */
public final class PayersTest {
    private static final Check CHECK = new Check();
    /** HEIGHT at 0 is 20 and what is paid, at 2 it is 20 less that. */
    private static final String SEA = "sea 4;moon m at 0 goes 0 temper 0;harbor a at 0 purse 0 depth 0;"
            + "harbor b at 1 purse 0 depth 0;harbor c at 2 purse 0 depth 0;pays a m 3;pays b m 2;pays c m 5;"
            + "pull paid*(1-far);";

    public static void main(String[] args) {
        promise28();
        promise28Refused();
        promise29();
        promise29Changes();
        CHECK.finish("PayersTest");
    }

    private static void promise28() {
        MoonTender x = CHECK.sea(SEA);
        CHECK.due("one row", Check.see(x, 0, 25), 1);
        CHECK.due("the tape goes", x.end(1), false);
        CHECK.due("two rows", Check.see(x, 0, 25, 2, 15), 2);
        CHECK.due("a place twice", Check.see(x, 0, 25, 0, 26), 2);
        int[] rows = new int[40];
        CHECK.due("twenty rows", Check.see(x, rows), 20);
        CHECK.due("any height", Check.see(x, 3, -1000, 3, 64535), 2);
        CHECK.due("nobody pays for that", x.payers(0), 0);
        CHECK.due("status(5)", x.status(5), 0);
    }

    private static void refused(MoonTender x, int count, int... bytes) {
        String before = Check.all(x);
        Check.tape(x, bytes);
        CHECK.due("see() of " + bytes.length + " bytes", x.see(), -1);
        CHECK.due("status(5)", x.status(5), count);
        CHECK.same("see() of " + bytes.length + " bytes", Check.all(x), before);
        CHECK.due("the tape goes", x.feed(0, 0, 0, 0, 0), 20);
        x.end(0);
    }

    private static void promise28Refused() {
        MoonTender x = CHECK.sea(SEA);
        Check.see(x, 0, 25);
        refused(x, 1);
        refused(x, 2, 0);
        refused(x, 3, 0, 4);
        refused(x, 4, 0, 4, 0, 1);
        refused(x, 5, new int[61]);
        refused(x, 6, new int[63]);
        refused(x, 7, 4, 4, 0);
        refused(x, 8, 255, 4, 0);
        refused(x, 9, 0, 4, 0, 1, 4, 0, 4, 4, 0);
        MoonTender none = new MoonTender();
        CHECK.due("see without a sea", Check.see(none, 0, 20), -1);
        CHECK.due("status(5)", none.status(5), 1);
        MoonTender never = CHECK.sea(SEA);
        refused(never, 1, 4, 4, 0);
        CHECK.due("nothing is seen", never.payers(0), -1);
    }

    private static void payers(MoonTender x, int sets, int inAll, int inSome, int... rows) {
        Check.see(x, rows);
        String seen = "payers of " + rows[0] + ", " + rows[1];
        CHECK.due(seen + ": sets", x.payers(0), sets);
        CHECK.due(seen + ": in all", x.payers(1), inAll);
        CHECK.due(seen + ": in some", x.payers(2), inSome);
    }

    private static void promise29() {
        MoonTender x = CHECK.sea(SEA);
        CHECK.due("nothing is seen", x.payers(0), -1);
        payers(x, 2, 0, 7, 0, 25);
        payers(x, 1, 5, 5, 0, 28);
        payers(x, 1, 7, 7, 0, 30);
        payers(x, 1, 0, 0, 0, 20);
        payers(x, 0, 0, 0, 0, 21);
        payers(x, 8, 0, 7, 1, 20);
        payers(x, 2, 0, 7, 0, 25, 2, 15);
        payers(x, 0, 0, 0, 0, 25, 2, 16);
        payers(x, 0, 0, 0, 0, 25, 0, 28);
        CHECK.due("payers(3)", x.payers(3), -1);
        CHECK.due("payers(-1)", x.payers(-1), -1);
        MoonTender low = CHECK.sea(SEA.replace("sea 4;", "sea 4;level 0;"));
        payers(low, 2, 0, 7, 2, -5);
        MoonTender still = CHECK.sea("sea 4;");
        payers(still, 1, 0, 0, 3, 20);
        payers(still, 0, 0, 0, 3, 19);
        MoonTender free = CHECK.sea(SEA.replace("pays b m 2;", ""));
        payers(free, 2, 1, 3, 0, 23);
        StringBuilder eight = new StringBuilder("sea 8;pull paid*(1-min(1,far));moon m at 0 goes 0 temper 0;");
        for (int h = 0; h < 8; h++) {
            char name = (char) ('a' + h);
            eight.append("harbor h").append(name).append(" at ").append(h).append(" purse 0 depth 0;pays h").append(name)
                    .append(" m 8;");
        }
        MoonTender many = CHECK.sea(eight.toString());
        payers(many, 70, 0, 255, 0, 20 + 32 - 4);
        payers(many, 1, 255, 255, 0, 20 + 64 - 8);
        MoonTender rivals = CHECK.sea("sea 4;moon m at 0 goes 0 temper 0;moon n at 1 goes 0 temper 0;"
                + "harbor a at 0 purse 0 depth 0;harbor b at 1 purse 0 depth 0;pays a m 4;pays b n 3;"
                + "pull (paid-rival)*(1-far);");
        payers(rivals, 1, 3, 3, 0, 21, 1, 19);
        payers(rivals, 1, 1, 1, 0, 24, 1, 16);
        payers(rivals, 1, 2, 2, 0, 17, 1, 23);
    }

    private static void promise29Changes() {
        MoonTender x = CHECK.sea(SEA);
        Check.see(x, 0, 25);
        CHECK.due("first", x.payers(0), 2);
        x.bid(1, 0, 5);
        CHECK.due("after a bid", x.payers(0), 2);
        CHECK.due("after a bid", x.payers(2), 6);
        x.undo();
        CHECK.due("undone", x.payers(2), 7);
        MoonTender y = CHECK.sea(SEA);
        Check.see(y, 0, 25);
        Check.on(y, Check.image(0, 0, 0, 0, 0, 0, 5, 0, 0, 0, 0, 5, 0, 0, 0, 0, 5, 0, 0));
        CHECK.due("what is seen stays with an image", y.payers(0), 3);
        Check.sea(y, SEA);
        CHECK.due("and goes with a sea", y.payers(0), -1);
    }
}
