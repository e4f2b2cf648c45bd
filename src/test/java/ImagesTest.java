/** Promises 30 to 33: IMAGES and refusals. */
public final class ImagesTest {
    private static final Check CHECK = new Check();
    private static final String SEA = "sea 6;moon m at 0 goes 1 temper 3;moon n at 2 goes 1 temper 0;"
            + "harbor h at 1 purse 7 depth 9;harbor i at 4 purse 300 depth 12;pays h m 3;pays h n 5;pays i m 2;";
    private static final int[] FIRST = {0, 0, 0, 3, 2, 0, 0, 7, 3, 0, 0, 5, 0, 0, 1, 44, 2, 0, 0, 0, 0, 0};

    public static void main(String[] args) {
        promise30();
        promise31();
        promise32();
        promise32Ends();
        promise32Refused();
        promise33();
        CHECK.finish("ImagesTest");
    }

    private static void octets(MoonTender x, int... want) {
        for (int k = 0; k < want.length; k++) {
            CHECK.due("octet(" + k + ")", x.octet(k), want[k]);
        }
        CHECK.due("octet behind the last", x.octet(want.length), -1);
    }

    private static void promise30() {
        MoonTender none = new MoonTender();
        CHECK.due("image without a sea", none.image(), 3);
        octets(none, 0, 0, 217);
        MoonTender x = CHECK.sea(SEA);
        CHECK.due("image", x.image(), 23);
        octets(x, Check.image(FIRST));
        x.hours(200);
        x.hours(57);
        x.image();
        CHECK.due("hour, high", x.octet(0), 1);
        CHECK.due("hour, low", x.octet(1), 1);
        CHECK.due("place", x.octet(2), 257 % 6);
        int due = x.bids(0, 1, 1);
        CHECK.due("due, high", x.octet(12), due / 256);
        CHECK.due("due, low", x.octet(13), due % 256);
        CHECK.due("something is due above 255", due > 255, true);
        MoonTender empty = CHECK.sea("sea 4;");
        empty.hours(1);
        CHECK.due("image of an empty sea", empty.image(), 3);
        octets(empty, Check.image(0, 1));
        StringBuilder most = new StringBuilder("sea 8;");
        for (int i = 0; i < 3; i++) {
            most.append("moon m").append((char) ('a' + i)).append(" at 0 goes 0 temper 0;");
        }
        for (int i = 0; i < 8; i++) {
            most.append("harbor h").append((char) ('a' + i)).append(" at ").append(i).append(" purse 0 depth 0;");
        }
        CHECK.due("the longest image", CHECK.sea(most.toString()).image(), 97);
    }

    private static void promise31() {
        MoonTender x = CHECK.sea(SEA);
        CHECK.due("ahead of an image", x.octet(0), -1);
        x.image();
        CHECK.due("octet(-1)", x.octet(-1), -1);
        CHECK.due("octet(23)", x.octet(23), -1);
        CHECK.due("octet(most)", x.octet(Integer.MAX_VALUE), -1);
        CHECK.due("octet(least)", x.octet(Integer.MIN_VALUE), -1);
        x.hours(3);
        octets(x, Check.image(FIRST));
        Check.sea(x, "sea 4;");
        octets(x, Check.image(FIRST));
        x.image();
        octets(x, Check.image(0, 0));
        CHECK.due("nothing is refused", x.status(5), 0);
    }

    private static void promise32() {
        MoonTender x = CHECK.sea(SEA);
        String first = Check.all(x);
        x.hours(9);
        x.bid(0, 0, 20);
        String later = Check.all(x);
        CHECK.due("on of the first image", Check.on(x, Check.image(FIRST)), true);
        CHECK.same("on of the first image", Check.all(x), first);
        CHECK.due("no act can be undone", x.undo(), false);
        CHECK.due("the tape goes", x.feed(0, 0, 0, 0, 0), 20);
        x.end(0);
        x.hours(9);
        x.bid(0, 0, 20);
        CHECK.same("the same acts again", Check.all(x), later);
        int[] image = new int[x.image()];
        for (int k = 0; k < image.length; k++) {
            image[k] = x.octet(k);
        }
        MoonTender y = CHECK.sea(SEA);
        CHECK.due("on in another object", Check.on(y, image), true);
        CHECK.same("on, but for the acts", Check.all(y), later.replaceFirst("^((\\S+ ){10})2 ", "$10 "));
        CHECK.due("heights are asked anew", y.height(0, 5), x.height(0, 5));
        Check.sea(y, "sea 6;moon m at 0 goes 1 temper 3;harbor h at 1 purse 7 depth 9;");
        CHECK.due("on in a smaller sea", Check.on(y, Check.image(0, 0, 0, 0, 0, 4, 1, 0, 2)), true);
        CHECK.due("coins", y.has(8), 4);
        CHECK.due("due", y.has(9), 2);
        CHECK.due("bids", y.moon(0, 3), 1);
        Check.sea(y, SEA);
        Check.on(y, image);
        CHECK.due("the hour", y.has(7), 9);
    }

    private static int[] with(int at, int... bytes) {
        int[] image = FIRST.clone();
        System.arraycopy(bytes, 0, image, at, bytes.length);
        return Check.image(image);
    }

    private static void promise32Ends() {
        MoonTender x = CHECK.sea(SEA);
        CHECK.due("hour 9999", Check.on(x, with(0, 39, 15)), true);
        CHECK.due("hour", x.has(7), 9999);
        CHECK.due("place 5", Check.on(x, with(2, 5)), true);
        CHECK.due("place", x.moon(0, 0), 5);
        CHECK.due("temper 9", Check.on(x, with(5, 9)), true);
        CHECK.due("temper", x.moon(1, 2), 9);
        CHECK.due("purse 9999", Check.on(x, with(14, 39, 15)), true);
        CHECK.due("purse", x.harbor(1, 1), 9999);
        CHECK.due("bid 20", Check.on(x, with(11, 20)), true);
        CHECK.due("bid", x.bids(0, 1, 0), 20);
        CHECK.due("due 9999", Check.on(x, with(20, 39, 15)), true);
        CHECK.due("due", x.bids(1, 1, 1), 9999);
        CHECK.due("status(5)", x.status(5), 0);
    }

    private static void promise32Refused() {
        MoonTender x = CHECK.sea(SEA);
        x.hours(2);
        Check.see(x, 0, 20);
        String before = Check.all(x);
        int[] wrongEnd = Check.image(FIRST);
        wrongEnd[22] ^= 1;
        int[] wrongByte = Check.image(FIRST);
        wrongByte[7]++;
        int[][] bad = {with(0, 39, 16), with(2, 6), with(4, 255), with(3, 10), with(6, 39, 16), with(8, 21),
            with(9, 39, 16), with(18, 255, 255), wrongEnd, wrongByte, {}, Check.image(0, 0),
            java.util.Arrays.copyOf(Check.image(FIRST), 24), java.util.Arrays.copyOf(FIRST, 22),
            Check.image(java.util.Arrays.copyOf(FIRST, 23)), Check.image(java.util.Arrays.copyOf(FIRST, 21))};
        for (int i = 0; i < bad.length; i++) {
            CHECK.due("bad image " + i, Check.on(x, bad[i]), false);
            CHECK.due("status(5)", x.status(5), i + 1);
            CHECK.same("bad image " + i, Check.all(x), before);
            CHECK.due("the tape goes", x.end(1), false);
        }
        MoonTender none = new MoonTender();
        CHECK.due("on without a sea", Check.on(none, Check.image(0, 0)), false);
        CHECK.due("status(5)", none.status(5), 1);
        MoonTender empty = CHECK.sea("sea 4;");
        CHECK.due("on of an empty sea", Check.on(empty, Check.image(1, 0)), true);
        CHECK.due("its hour", empty.has(7), 256);
    }

    private static void promise33() {
        MoonTender x = new MoonTender();
        x.end(1);
        x.end(-1);
        x.sea();
        x.bid(0, 0, 0);
        x.give(0, 1, 1);
        x.soothe(0, 0);
        x.hours(1);
        x.storms(1);
        x.hours(0);
        x.storms(0);
        x.undo();
        x.undo();
        x.undo();
        x.undo();
        x.undo();
        x.seed(-1);
        x.see();
        x.on();
        x.seed(-2);
        x.see();
        x.on();
        int[] want = {2, 1, 3, 4, 5, 6};
        for (int what = 0; what < 6; what++) {
            CHECK.due("status(" + what + ")", x.status(what), want[what]);
        }
        for (int what : new int[] {-1, 6, Integer.MAX_VALUE, Integer.MIN_VALUE}) {
            CHECK.due("status(" + what + ")", x.status(what), -1);
        }
        x.moon(9, 9);
        x.wished(0, 0, 0);
        x.octet(-1);
        x.has(99);
        Check.sea(x, SEA);
        for (int what = 0; what < 6; what++) {
            CHECK.due("status(" + what + ") stays", x.status(what), want[what]);
        }
    }
}
