import java.util.Arrays;

/** The bounds that "Terms" III names: HOURS AHEAD, WISHED, REST, SHIPS, ALL MEET, who FAILS, PAYERS, IMAGES. */
public final class AheadBoundsTest {
    private static final Check CHECK = new Check();
    private static final int NOTHING = -1000000000;
    private static final String MOON = "moon m at 0 goes 0 temper 0;";
    private static final String HARBORS = "harbor h at 0 purse 0 depth 0;harbor i at 2 purse 0 depth 0;";
    /** HEIGHT at the MOON's PLACE is 20 and what it is bid, across from it 20 less that, else 20. */
    private static final String SEESAW = "pull paid*(1-far);";
    /** Three HARBORS whose bidding comes to rest late: by what they bid at first in round 11, 12, 13 or 14. */
    private static final String LATE = "sea 6;" + MOON + "harbor a at 0 purse 0 depth 0;harbor b at 1 purse 0 depth 0;"
            + "harbor c at 2 purse 0 depth 0;pull (paid*7+place)%9*3;";

    public static void main(String[] args) {
        hoursAhead();
        hoursAheadAtTheEnd();
        brokenAhead();
        wishedBids();
        wishedOrMore();
        wishedLike();
        wishedInPlaceOfItsOwn();
        restBids();
        restOwn();
        restFirst();
        restOthersAsTheyAreThen();
        restRounds();
        floats();
        floatsAtItsBeginning();
        floatsInEachHour();
        besideInTheRing();
        acrossTheFewest();
        acrossLast();
        latestBy();
        latestAtTheEnd();
        latestFloating();
        meetFirst();
        meetNever();
        meetAtTheEnd();
        fails();
        failsOneAfterAnother();
        help();
        payersNone();
        payersAll();
        payersJustSo();
        imageSizes();
        imageBytes();
        imageLastByte();
        CHECK.finish("AheadBoundsTest");
    }

    private static String letter(int i) {
        return String.valueOf((char) ('a' + i));
    }

    // ---- ahead

    /** What each call that looks AHEAD answers in the last HOUR that there is, and behind it. */
    private static void reaches(MoonTender x, int last) {
        String at = " at hour " + x.has(7);
        CHECK.due("height(0, " + last + ")" + at, x.height(0, last), 20);
        CHECK.due("height(0, " + (last + 1) + ")" + at, x.height(0, last + 1), NOTHING);
        for (int what = 0; what <= 2; what++) {
            CHECK.due("ahead(0, " + last + ", " + what + ")" + at, x.ahead(0, last, what) >= 0, true);
            CHECK.due("ahead(0, " + (last + 1) + ", " + what + ")" + at, x.ahead(0, last + 1, what), -1);
        }
        CHECK.due("stranded(" + last + ", 0)" + at, x.stranded(last, 0), 1);
        CHECK.due("stranded(" + last + ", 1)" + at, x.stranded(last, 1), last);
        CHECK.due("stranded(" + (last + 1) + ", 0)" + at, x.stranded(last + 1, 0), -1);
        CHECK.due("stranded(" + (last + 1) + ", 1)" + at, x.stranded(last + 1, 1), -1);
    }

    private static void hoursAhead() {
        CHECK.says("(0: now; 48 at most; not beyond HOUR 9999)");
        MoonTender x = CHECK.sea("sea 4;" + MOON + "harbor h at 0 purse 0 depth 21;pays h m 1;");
        reaches(x, 48);
        CHECK.due("0 is now", x.ahead(0, 0, 2), 0);
        CHECK.due("1 is an hour later", x.ahead(0, 1, 2), 1);
        CHECK.due("48 is 48 hours later", x.ahead(0, 48, 2), 48);
        CHECK.due("height(0, -1)", x.height(0, -1), NOTHING);
        CHECK.due("ahead(0, -1, 0)", x.ahead(0, -1, 0), -1);
        CHECK.due("stranded(-1, 0)", x.stranded(-1, 0), -1);
        CHECK.due("stranded(-1, 1)", x.stranded(-1, 1), -1);
        x.hours(7);
        reaches(x, 48);
        CHECK.due("0 is now", x.ahead(0, 0, 2), 7);
        CHECK.due("48 is 48 hours later", x.ahead(0, 48, 2), 55);
    }

    private static void hoursAheadAtTheEnd() {
        CHECK.says("not beyond HOUR 9999");
        int[][] rows = {{9950, 48}, {9951, 48}, {9952, 47}, {9990, 9}, {9998, 1}, {9999, 0}};
        for (int[] row : rows) {
            MoonTender x = CHECK.sea("sea 4;" + MOON + "harbor h at 0 purse 0 depth 21;pays h m 1;");
            Check.withHour(x, row[0]);
            reaches(x, row[1]);
        }
    }

    private static void brokenAhead() {
        CHECK.says("(by HOURS AHEAD, HARBORS, CLAUSES)");
        int[][] rows = {{0, 0, 0}, {0, 1, 1}, {0, 48, 48}, {0, 49, -1}, {1, 49, 48}, {9951, 9999, 48}, {9952, 9999, 47},
            {9998, 9999, 1}, {9999, 9999, 0}, {9950, 9999, -1}};
        for (int[] row : rows) {
            MoonTender x = CHECK.sea("sea 4;harbor h at 0 purse 0 depth 0;clause hour<" + row[1] + ";");
            Check.withHour(x, row[0]);
            CHECK.due("hour " + row[0] + ", broken in " + row[1], x.broken(0), row[2]);
            CHECK.due("its harbor", x.broken(1), row[2] < 0 ? -1 : 0);
            CHECK.due("its clause", x.broken(2), row[2] < 0 ? -1 : 0);
        }
        MoonTender many = CHECK.sea("sea 8;" + eight("purse 0") + "clause all;".repeat(5) + "clause place<7;");
        CHECK.due("the last harbor", many.broken(1), 7);
        CHECK.due("the last clause", many.broken(2), 5);
        MoonTender order = CHECK.sea("sea 8;" + eight("purse 0") + "clause place<3;clause place=3 or hour=0;");
        CHECK.due("hours first", order.broken(0), 0);
        CHECK.due("then harbors", order.broken(1), 3);
        CHECK.due("then clauses", order.broken(2), 0);
        order.hours(1);
        CHECK.due("the first harbor", order.broken(1), 0);
        CHECK.due("by the second clause", order.broken(2), 1);
    }

    private static String eight(String purse) {
        StringBuilder s = new StringBuilder();
        for (int h = 0; h < 8; h++) {
            s.append("harbor ").append(letter(h)).append(" at ").append(h).append(' ').append(purse).append(" depth 0;");
        }
        return s.toString();
    }

    // ---- bidding

    private static void wishedBids() {
        CHECK.says("(0 .. 10 for each MOON, in place of its own)");
        MoonTender x = CHECK.sea("sea 4;" + MOON + HARBORS + SEESAW);
        CHECK.due("the least", x.wished(0, 20, -1), 0);
        CHECK.due("the most", x.wished(0, 30, -1), 10);
        CHECK.due("the most to moon 0", x.wished(0, 30, 0), 10);
        CHECK.due("more than the most", x.wished(0, 31, -1), -1);
        CHECK.due("more than the most to moon 0", x.wished(0, 31, 0), -1);
        String three = "sea 4;" + MOON + "moon n at 0 goes 0 temper 0;moon o at 0 goes 0 temper 0;" + HARBORS + SEESAW;
        MoonTender y = CHECK.sea(three);
        CHECK.due("the most of three", y.wished(0, 50, -1), 30);
        for (int m = 0; m < 3; m++) {
            CHECK.due("the most to moon " + m, y.wished(0, 50, m), 10);
        }
        CHECK.due("more than the most of three", y.wished(0, 51, -1), -1);
        CHECK.due("one less than the most", y.wished(0, 49, 0), 9);
    }

    private static void wishedOrMore() {
        CHECK.says("with the least sum by which its HEIGHT now is so much, or more");
        MoonTender x = CHECK.sea("sea 4;" + MOON + HARBORS + "pull paid*3*(1-far);");
        int[][] rows = {{-999, 0}, {19, 0}, {20, 0}, {21, 1}, {22, 1}, {23, 1}, {24, 2}, {50, 10}, {51, -1}, {999, -1}};
        for (int[] row : rows) {
            CHECK.due("height " + row[0], x.wished(0, row[0], -1), row[1]);
        }
        MoonTender y = CHECK.sea("sea 4;" + MOON + HARBORS + "pull 9*(1-min(1,paid%7))*(1-far);");
        CHECK.due("already so much", y.wished(0, 29, -1), 0);
        MoonTender z = CHECK.sea("sea 4;" + MOON + HARBORS + "pull 9*(1-min(1,(paid+1)%5))*(1-far);");
        CHECK.due("the least of 4 and 9", z.wished(0, 29, -1), 4);
        CHECK.due("at the other harbor nothing does", z.wished(1, 29, -1), -1);
        CHECK.due("but 0 does for 20", z.wished(1, 20, -1), 0);
        MoonTender still = CHECK.sea("sea 4;" + HARBORS);
        CHECK.due("without moons, so much", still.wished(0, 20, -1), 0);
        CHECK.due("without moons, not so much", still.wished(0, 21, -1), -1);
    }

    private static void wishedLike() {
        CHECK.says("of like ones the first by MOONS");
        String three = "sea 4;" + MOON + "moon n at 0 goes 0 temper 0;moon o at 0 goes 0 temper 0;" + HARBORS + SEESAW;
        int[][] rows = {{20, 0, 0, 0}, {21, 0, 0, 1}, {30, 0, 0, 10}, {31, 0, 1, 10}, {40, 0, 10, 10}, {41, 1, 10, 10}};
        for (int[] row : rows) {
            MoonTender x = CHECK.sea(three);
            for (int m = 0; m < 3; m++) {
                CHECK.due("height " + row[0] + " moon " + m, x.wished(0, row[0], m), row[m + 1]);
            }
            CHECK.due("height " + row[0], x.wished(0, row[0], -1), row[0] - 20);
        }
    }

    private static void wishedInPlaceOfItsOwn() {
        CHECK.says("in place of its own) with the least sum");
        MoonTender x = CHECK.sea("sea 4;" + MOON + HARBORS + "pays h m 20;" + SEESAW);
        CHECK.due("height by its own", x.height(0, 0), 40);
        CHECK.due("without its own", x.wished(0, 20, -1), 0);
        CHECK.due("its own would do", x.wished(0, 40, -1), -1);
        MoonTender y = CHECK.sea("sea 4;" + MOON + HARBORS + "pays i m 20;" + SEESAW);
        CHECK.due("with the other's", y.wished(0, 40, -1), 0);
        CHECK.due("with the other's, 10 more", y.wished(0, 50, -1), 10);
        CHECK.due("with the other's, 11 more", y.wished(0, 51, -1), -1);
    }

    private static void rest(String sea, int round, int... bids) {
        MoonTender x = CHECK.sea(sea);
        int moons = x.has(1);
        CHECK.due("rest(-1) of <" + sea + ">", x.rest(-1), round);
        for (int i = 0; i < bids.length; i++) {
            int k = i / moons * 10 + i % moons;
            CHECK.due("rest(" + k + ") of <" + sea + ">", x.rest(k), bids[i]);
        }
    }

    private static void restBids() {
        CHECK.says("(0 .. 4 for each MOON)");
        String strong = "pull paid*3*(1-far);";
        rest("sea 4;" + MOON + HARBORS + strong, 2, 4, 0);
        rest("sea 4;" + MOON + HARBORS + "pays h m 4;" + strong, 1, 4, 0);
        rest("sea 4;" + MOON + HARBORS + "pays h m 5;" + strong, 2, 4, 0);
        rest("sea 4;" + MOON + HARBORS + "pays h m 20;pays i m 20;" + strong, 2, 4, 0);
        rest("sea 4;" + MOON + "moon n at 0 goes 0 temper 0;moon o at 0 goes 0 temper 0;" + HARBORS + strong, 2,
                4, 4, 4, 0, 0, 0);
    }

    private static void restOwn() {
        CHECK.says("of like ones their own, if these are among them");
        for (int own = 0; own <= 20; own++) {
            boolean among = own <= 4;
            rest("sea 4;" + MOON + HARBORS + "pays h m " + own + ";" + SEESAW, among ? 1 : 2, among ? own : 0, 0);
        }
        rest("sea 4;" + MOON + "moon n at 0 goes 0 temper 0;" + HARBORS + "pays h m 4;pays h n 4;" + SEESAW, 1, 4, 4, 0, 0);
        rest("sea 4;" + MOON + "moon n at 0 goes 0 temper 0;" + HARBORS + "pays h m 4;pays h n 5;" + SEESAW, 2, 0, 0, 0, 0);
        rest("sea 4;" + MOON + "moon n at 0 goes 0 temper 0;" + HARBORS + "pays h m 5;pays h n 4;" + SEESAW, 2, 0, 0, 0, 0);
    }

    private static void restFirst() {
        CHECK.says("else the first by MOONS)");
        String two = "sea 4;" + MOON + "moon n at 0 goes 0 temper 0;" + HARBORS;
        rest(two + "pull min(paid+rival,1)*9*(1-far);", 2, 0, 1, 0, 0);
        rest(two + "pull min(paid+rival,4)*9*(1-far);", 2, 0, 4, 0, 0);
        rest(two + "pull min(paid+rival,5)*9*(1-far);", 2, 1, 4, 0, 0);
        rest(two + "pull min(paid+rival,8)*9*(1-far);", 2, 4, 4, 0, 0);
        rest(two + "pays h m 4;pull min(paid+rival,4)*9*(1-far);", 1, 4, 0, 0, 0);
    }

    private static void restOthersAsTheyAreThen() {
        CHECK.says("the others' as they are then");
        // Both want m to be bid 1 at least: the first one pays as long as the other one did not.
        String both = "sea 6;" + MOON + "harbor h at 1 purse 0 depth 0;harbor i at 5 purse 0 depth 0;"
                + "pull min(paid,1)*9*(1-min(1,max(far-1,1-far)));";
        rest(both, 2, 1, 0);
        rest(both + "pays i m 1;", 1, 0, 1);
        rest(both + "pays h m 1;pays i m 1;", 2, 0, 1);
    }

    /** REST of LATE in its plainest form: the round (as many as one likes), then the three bids. */
    private static int[] plainRest(int rounds, int... start) {
        int[] bids = start.clone();
        for (int round = 1; round <= rounds; round++) {
            boolean others = false;
            for (int h = 0; h < 3; h++) {
                int best = Integer.MIN_VALUE;
                int taken = 0;
                for (int n = 0; n <= 4; n++) {
                    int gain = lateHeight(h, bids[0] + bids[1] + bids[2] - bids[h] + n) - n;
                    if (gain > best || gain == best && n == bids[h]) {
                        best = gain;
                        taken = n;
                    }
                }
                others |= taken != bids[h];
                bids[h] = taken;
            }
            if (!others) {
                return new int[] {round, bids[0], bids[1], bids[2]};
            }
        }
        return new int[] {rounds + 1, bids[0], bids[1], bids[2]};
    }

    private static int lateHeight(int place, int paid) {
        int total = 0;
        for (int p = 0; p < 6; p++) {
            total += (paid * 7 + p) % 9 * 3;
        }
        return 20 + (paid * 7 + place) % 9 * 3 - total / 6 - (place < total % 6 ? 1 : 0);
    }

    private static void restRounds() {
        CHECK.says("until a round in which nobody takes other ones, or 12 rounds");
        int[][] starts = {{0, 0, 0}, {0, 3, 0}, {0, 2, 0}, {0, 1, 0}};
        int[] quiet = {11, 12, 13, 14};
        for (int i = 0; i < 4; i++) {
            int[] start = starts[i];
            CHECK.due("the quiet round of " + Arrays.toString(start), plainRest(100, start)[0], quiet[i]);
            int[] want = plainRest(12, start);
            rest(LATE + "pays a m " + start[0] + ";pays b m " + start[1] + ";pays c m " + start[2] + ";",
                    Math.min(13, quiet[i]), want[1], want[2], want[3]);
        }
        int[] twelfth = plainRest(12, 0, 1, 0);
        int[] thirteenth = plainRest(13, 0, 1, 0);
        CHECK.due("a thirteenth round would change them", Arrays.equals(Arrays.copyOfRange(twelfth, 1, 4),
                Arrays.copyOfRange(thirteenth, 1, 4)), false);
        for (int i = 0; i < 125; i++) {
            int[] start = {i / 25, i / 5 % 5, i % 5};
            int[] want = plainRest(12, start);
            rest(LATE + "pays a m " + start[0] + ";pays b m " + start[1] + ";pays c m " + start[2] + ";", want[0], want[1],
                    want[2], want[3]);
        }
        // One wants an odd sum, the other one an even one, for ever: 1 and 1 in odd rounds, 0 and 0 in even ones.
        rest("sea 4;" + MOON + HARBORS + "pull (paid%2)*8*(1-far);", 13, 0, 0);
        rest("sea 4;" + MOON + HARBORS + "pays i m 1;pull (paid%2)*8*(1-far);", 13, 1, 1);
        rest("sea 4;" + MOON, 1);
        rest("sea 4;", 1);
    }

    // ---- ships

    private static void floats() {
        CHECK.says("HEIGHT of the PLACE where it is then, in that HOUR, is its draught or more");
        for (int level : new int[] {0, 1, 50, 98, 99}) {
            MoonTender x = CHECK.sea("sea 4;level " + level + ";" + HARBORS);
            CHECK.due("draught as much as the height " + level, x.across(0, 1, level), 2);
            CHECK.due("latest by it", x.latest(0, 1, level), 46);
            CHECK.due("there already", x.across(0, 0, level), 0);
            CHECK.due("one more than the height " + level, x.across(0, 1, level + 1), -1);
            CHECK.due("latest by that", x.latest(0, 1, level + 1), -1);
            CHECK.due("there already by that", x.across(0, 0, level + 1), -1);
            CHECK.due("latest there already by that", x.latest(0, 0, level + 1), -1);
        }
        MoonTender below = CHECK.sea("sea 4;level 0;" + MOON + HARBORS + "pull far-1;");
        CHECK.due("a height of -1", below.height(0, 0), -1);
        CHECK.due("does not carry 0", below.across(0, 0, 0), -1);
        CHECK.due("nor later", below.latest(0, 0, 0), -1);
        CHECK.due("the place across has 1", below.across(1, 1, 1), 0);
    }

    private static void floatsAtItsBeginning() {
        CHECK.says("(AHEAD; at its beginning, too)");
        // The MOON's PLACE has -5, the others 15; an HOUR later another one is dry.
        String dry = "level 10;pull (0-20)*(1-min(1,far));harbor a at 0 purse 0 depth 0;harbor b at 1 purse 0 depth 0;"
                + "harbor c at 2 purse 0 depth 0;";
        MoonTender x = CHECK.sea("sea 4;moon m at 0 goes 1 temper 0;" + dry);
        CHECK.due("dry now, wet an hour later", x.across(0, 2, 15), -1);
        CHECK.due("dry now, there already", x.across(0, 0, 15), -1);
        CHECK.due("wet now, dry an hour later", x.across(1, 1, 15), 0);
        CHECK.due("wet now, away in time", x.across(1, 0, 15), 1);
        CHECK.due("draught -5 and more can't be", x.across(0, 0, 0), -1);
        x.hours(1);
        CHECK.due("wet then", x.across(0, 2, 15), 2);
    }

    private static void floatsInEachHour() {
        CHECK.says("In each HOUR it goes to a PLACE beside it in the ring, or waits; it must float");
        // Of six PLACES the MOON's alone is wet (10 deep).
        String wave = "sea 6;level 0;pull 12*(1-min(1,far));harbor a at 0 purse 0 depth 0;harbor b at 3 purse 0 depth 0;";
        MoonTender x = CHECK.sea(wave + "moon m at 0 goes 1 temper 0;");
        CHECK.due("goes with the wave", x.across(0, 1, 10), 3);
        MoonTender fast = CHECK.sea(wave + "moon m at 0 goes 2 temper 0;");
        CHECK.due("the wave is too fast", fast.across(0, 1, 10), -1);
        MoonTender still = CHECK.sea(wave + "moon m at 0 goes 0 temper 0;");
        CHECK.due("waits for ever", still.across(0, 1, 10), -1);
        CHECK.due("can wait to the last", still.latest(0, 0, 10), 48);
        MoonTender back = CHECK.sea(wave + "moon m at 0 goes 5 temper 0;");
        CHECK.due("with a wave that goes back", back.across(0, 1, 10), 3);
    }

    private static void besideInTheRing() {
        CHECK.says("it goes to a PLACE beside it in the ring");
        for (int places : new int[] {4, 5, 23, 24}) {
            for (int to = 1; to < places; to++) {
                MoonTender x = CHECK.sea("sea " + places + ";harbor a at 0 purse 0 depth 0;harbor b at " + to + " purse 0 depth 0;");
                int steps = Math.min(to, places - to);
                CHECK.due("0 to " + to + " of " + places, x.across(0, 1, 20), steps);
                CHECK.due(to + " to 0 of " + places, x.across(1, 0, 20), steps);
                CHECK.due("latest 0 to " + to + " of " + places, x.latest(0, 1, 20), 48 - steps);
                CHECK.due("latest " + to + " to 0 of " + places, x.latest(1, 0, 20), 48 - steps);
            }
        }
    }

    /** The MOON's PLACE (2) is dry till an HOUR, all is 10 from then on. */
    private static String wetFrom(int hour) {
        return "sea 4;level 10;moon m at 2 goes 0 temper 0;" + HARBORS + "pull (1-min(1,far))*(0-40)*(1-min(1,hour/" + hour + "));";
    }

    private static void acrossTheFewest() {
        CHECK.says("ACROSS: the fewest HOURS till it is at another HARBOR's PLACE");
        int[][] rows = {{1, 2}, {2, 2}, {3, 3}, {47, 47}, {48, 48}, {49, -1}, {50, -1}};
        for (int[] row : rows) {
            MoonTender x = CHECK.sea(wetFrom(row[0]));
            CHECK.due("wet from " + row[0] + " on", x.across(0, 1, 10), row[1]);
        }
        MoonTender x = CHECK.sea(wetFrom(49));
        x.hours(1);
        CHECK.due("an hour nearer", x.across(0, 1, 10), 48);
        CHECK.due("0 when it is one and it floats", x.across(0, 0, 10), 0);
    }

    private static void acrossLast() {
        CHECK.says("not beyond HOUR 9999)");
        int[][] rows = {{9950, -1}, {9951, 48}, {9952, 47}, {9997, 2}, {9998, -1}, {9999, -1}};
        for (int[] row : rows) {
            MoonTender x = CHECK.sea(wetFrom(9999));
            Check.withHour(x, row[0]);
            CHECK.due("from hour " + row[0], x.across(0, 1, 10), row[1]);
        }
        MoonTender last = CHECK.sea(wetFrom(1));
        Check.withHour(last, 9999);
        CHECK.due("in the last hour, there already", last.across(0, 0, 10), 0);
    }

    private static void latestBy() {
        CHECK.says("to be there by the 48th");
        MoonTender x = CHECK.sea(wetFrom(1));
        CHECK.due("two steps", x.latest(0, 1, 10), 46);
        CHECK.due("there already", x.latest(0, 0, 10), 48);
        int[][] rows = {{46, 46}, {47, 46}, {48, 46}, {49, -1}};
        for (int[] row : rows) {
            CHECK.due("wet from " + row[0] + " on", CHECK.sea(wetFrom(row[0])).latest(0, 1, 10), row[1]);
        }
        // Dry from an HOUR on: the last one in which it is there is the one ahead of that.
        int[][] till = {{49, 46}, {48, 45}, {3, 0}, {2, -1}, {1, -1}};
        for (int[] row : till) {
            MoonTender y = CHECK.sea("sea 4;level 10;moon m at 2 goes 0 temper 0;" + HARBORS
                    + "pull (1-min(1,far))*(0-40)*min(1,hour/" + row[0] + ");");
            CHECK.due("dry from " + row[0] + " on", y.latest(0, 1, 10), row[1]);
        }
    }

    private static void latestAtTheEnd() {
        CHECK.says("LATEST: the last HOUR AHEAD in which it may set out");
        int[][] rows = {{9951, 46, 48}, {9952, 45, 47}, {9997, 0, 2}, {9998, -1, 1}, {9999, -1, 0}};
        for (int[] row : rows) {
            MoonTender x = CHECK.sea("sea 4;" + HARBORS);
            Check.withHour(x, row[0]);
            CHECK.due("two steps from hour " + row[0], x.latest(0, 1, 20), row[1]);
            CHECK.due("no step from hour " + row[0], x.latest(0, 0, 20), row[2]);
        }
    }

    private static void latestFloating() {
        CHECK.says("(floating where it begins then)");
        // The PLACE where it begins is dry from an HOUR on.
        int[][] rows = {{1, 0}, {2, 1}, {46, 45}, {47, 46}, {48, 46}, {49, 46}};
        for (int[] row : rows) {
            MoonTender x = CHECK.sea("sea 4;level 10;" + MOON + HARBORS + "pull (1-min(1,far))*(0-40)*min(1,hour/" + row[0] + ");");
            CHECK.due("dry from " + row[0] + " on", x.latest(0, 1, 10), row[1]);
            CHECK.due("dry from " + row[0] + " on, there already", x.latest(0, 0, 10), Math.min(48, row[0] - 1));
        }
        MoonTender never = CHECK.sea("sea 4;level 10;" + MOON + HARBORS + "pull (1-min(1,far))*(0-40);");
        CHECK.due("always dry", never.latest(0, 1, 10), -1);
        CHECK.due("always dry, there already", never.latest(0, 0, 10), -1);
    }

    // ---- meetings

    private static void meet(String moons, int hour, int place) {
        MoonTender x = CHECK.sea(moons);
        CHECK.due("meet(0) of <" + moons + ">", x.meet(0), hour);
        CHECK.due("meet(1) of <" + moons + ">", x.meet(1), place);
    }

    private static void meetFirst() {
        CHECK.says("ALL MEET: the first HOUR from now on (9999 HOURS on at most) in which all MOONS are at one PLACE, and which");
        meet("sea 24;moon m at 7 goes 3 temper 0;", 0, 7);
        meet("sea 24;moon m at 7 goes 3 temper 0;moon n at 7 goes 5 temper 0;moon o at 7 goes 9 temper 0;", 0, 7);
        meet("sea 24;moon m at 0 goes 1 temper 0;moon n at 1 goes 0 temper 0;", 1, 1);
        meet("sea 24;moon m at 0 goes 1 temper 0;moon n at 23 goes 0 temper 0;", 23, 23);
        meet("sea 24;moon m at 0 goes 23 temper 0;moon n at 1 goes 0 temper 0;", 23, 1);
        meet("sea 23;moon m at 0 goes 1 temper 0;moon n at 1 goes 2 temper 0;moon o at 2 goes 3 temper 0;", 22, 22);
        meet("sea 4;moon m at 0 goes 23 temper 0;moon n at 2 goes 0 temper 0;", 2, 2);
        MoonTender x = CHECK.sea("sea 24;moon m at 0 goes 1 temper 0;moon n at 23 goes 0 temper 0;");
        x.hours(23);
        CHECK.due("now", x.meet(0), 23);
        x.hours(1);
        CHECK.due("and once more all round", x.meet(0), 47);
        CHECK.due("there", x.meet(1), 23);
    }

    private static void meetNever() {
        CHECK.says("NONE when they do not, there are no MOONS, or for others");
        meet("sea 24;moon m at 0 goes 3 temper 0;moon n at 1 goes 3 temper 0;", -1, -1);
        meet("sea 24;moon m at 0 goes 2 temper 0;moon n at 1 goes 4 temper 0;", -1, -1);
        meet("sea 24;moon m at 0 goes 0 temper 0;moon n at 0 goes 0 temper 0;moon o at 1 goes 0 temper 0;", -1, -1);
        meet("sea 4;moon m at 0 goes 1 temper 0;moon n at 1 goes 2 temper 0;moon o at 3 goes 1 temper 0;", -1, -1);
        meet("sea 4;", -1, -1);
        MoonTender x = CHECK.sea("sea 4;" + MOON);
        CHECK.due("meet(2)", x.meet(2), -1);
        CHECK.due("meet(-1)", x.meet(-1), -1);
    }

    private static void meetAtTheEnd() {
        CHECK.says("(9999 HOURS on at most)");
        MoonTender x = CHECK.sea("sea 24;moon m at 0 goes 1 temper 0;moon n at 23 goes 0 temper 0;");
        Check.withHour(x, 9976);
        CHECK.due("in the last hour", x.meet(0), 9999);
        x.hours(23);
        CHECK.due("now, in the last hour", x.meet(0), 9999);
        CHECK.due("there", x.meet(1), 23);
    }

    // ---- banks

    private static void fails() {
        CHECK.says("if its purse and what those owe it who do not FAIL are less than what it owes");
        String two = "harbor b at 1 purse 0 depth 0;owes a b 10;";
        int[][] rows = {{0, 1, 10}, {9, 1, 1}, {10, 0, 0}, {11, 0, 0}, {999, 0, 0}};
        for (int[] row : rows) {
            MoonTender x = CHECK.sea("sea 4;harbor a at 0 purse " + row[0] + " depth 0;" + two);
            CHECK.due("purse " + row[0] + " owes 10", x.harbor(0, 8), row[1]);
            CHECK.due("its help", x.harbor(0, 9), row[2]);
            CHECK.due("who owes nothing does not", x.harbor(1, 8), 0);
        }
        int[][] owed = {{5, 4, 1, 1}, {5, 5, 0, 0}, {5, 6, 0, 0}, {0, 10, 0, 0}, {0, 9, 1, 1}};
        for (int[] row : owed) {
            MoonTender x = CHECK.sea("sea 4;harbor a at 0 purse " + row[0] + " depth 0;" + two.replace("purse 0", "purse 99")
                    + "owes b a " + row[1] + ";");
            CHECK.due("purse " + row[0] + ", owed " + row[1] + ", owes 10", x.harbor(0, 8), row[2]);
            CHECK.due("its help", x.harbor(0, 9), row[3]);
        }
        MoonTender none = CHECK.sea("sea 4;harbor a at 0 purse 0 depth 0;");
        CHECK.due("no debts: fails", none.harbor(0, 8), 0);
        CHECK.due("no debts: help", none.harbor(0, 9), 0);
        CHECK.due("no debts: owes", none.harbor(0, 6), 0);
        CHECK.due("no debts: is owed", none.harbor(0, 7), 0);
        MoonTender most = CHECK.sea("sea 4;harbor a at 0 purse 0 depth 0;harbor b at 1 purse 0 depth 0;" + "owes a b 999;".repeat(16));
        CHECK.due("owes the most", most.harbor(0, 6), 15984);
        CHECK.due("its help", most.harbor(0, 9), 15984);
        Check.withPurse(most, 0, 9999);
        CHECK.due("its help by the fullest purse", most.harbor(0, 9), 15984 - 9999);
        CHECK.due("fails all the same", most.harbor(0, 8), 1);
    }

    private static void failsOneAfterAnother() {
        CHECK.says("none at first; then, again and again, all who fail by that together, till none more");
        for (boolean up : new boolean[] {true, false}) {
            for (int lack = 0; lack <= 1; lack++) {
                StringBuilder sea = new StringBuilder("sea 8;" + eight("purse 0"));
                for (int i = 0; i < 8; i++) {
                    int from = up ? i : 7 - i;
                    int to = up ? (i + 1) % 8 : (14 - i) % 8;
                    sea.append("owes ").append(letter(from)).append(' ').append(letter(to)).append(i == 7 ? " " + (10 - lack) : " 10")
                            .append(';');
                }
                MoonTender x = CHECK.sea(sea.toString());
                for (int h = 0; h < 8; h++) {
                    boolean first = h == (up ? 0 : 7);
                    CHECK.due("lack " + lack + ", harbor " + h + " fails", x.harbor(h, 8), lack);
                    CHECK.due("lack " + lack + ", help of " + h, x.harbor(h, 9), first ? lack : 0);
                }
                Check.withPurse(x, up ? 0 : 7, lack);
                for (int h = 0; h < 8; h++) {
                    CHECK.due("with that help, harbor " + h + " fails", x.harbor(h, 8), 0);
                }
            }
        }
        // The sixth one has just enough without the fifth one: the chain ends there.
        StringBuilder sea = new StringBuilder("sea 8;" + eight("purse 0"));
        for (int h = 0; h < 7; h++) {
            sea.append("owes ").append(letter(h)).append(' ').append(letter(h + 1)).append(" 10;");
        }
        MoonTender x = CHECK.sea(sea.toString());
        Check.withPurse(x, 5, 10);
        for (int h = 0; h < 8; h++) {
            CHECK.due("up to the fifth one: " + h, x.harbor(h, 8), h < 5 ? 1 : 0);
        }
        Check.withPurse(x, 5, 9);
        for (int h = 0; h < 8; h++) {
            CHECK.due("and beyond: " + h, x.harbor(h, 8), h < 7 ? 1 : 0);
        }
    }

    private static void help() {
        CHECK.says("what it owes less its purse and what it is owed, 0 at least");
        int[][] rows = {{0, 10, 0, 10}, {3, 10, 4, 3}, {3, 10, 6, 1}, {3, 10, 7, 0}, {3, 10, 8, 0}, {999, 1, 999, 0}};
        for (int[] row : rows) {
            MoonTender x = CHECK.sea("sea 4;harbor a at 0 purse " + row[0] + " depth 0;harbor b at 1 purse 0 depth 0;owes a b "
                    + row[1] + ";" + (row[2] > 0 ? "owes b a " + row[2] + ";" : ""));
            CHECK.due("purse " + row[0] + ", owes " + row[1] + ", is owed " + row[2], x.harbor(0, 9), row[3]);
        }
        MoonTender x = CHECK.sea("sea 4;harbor a at 0 purse 0 depth 0;harbor b at 1 purse 0 depth 0;"
                + "harbor c at 2 purse 0 depth 0;owes a b 10;owes b c 10;");
        CHECK.due("b fails by a", x.harbor(1, 8), 1);
        CHECK.due("but lacks nothing if nobody fails", x.harbor(1, 9), 0);
    }

    // ---- who paid

    private static void payers(MoonTender x, int sets, int inAll, int inSome, int... rows) {
        Check.see(x, rows);
        String seen = Arrays.toString(rows);
        CHECK.due("sets of " + seen, x.payers(0), sets);
        CHECK.due("in all of " + seen, x.payers(1), inAll);
        CHECK.due("in some of " + seen, x.payers(2), inSome);
    }

    private static void payersNone() {
        CHECK.says("HARBORS in all of them, as bits (1; 0 without), in some (2)");
        MoonTender x = CHECK.sea("sea 4;" + MOON + HARBORS + "pays h m 3;pays i m 5;" + SEESAW);
        payers(x, 0, 0, 0, 0, 21);
        payers(x, 0, 0, 0, 0, 23, 0, 25);
        payers(x, 0, 0, 0, 3, 21);
        payers(x, 1, 0, 0, 0, 20);
        payers(x, 1, 1, 1, 0, 23);
        payers(x, 1, 2, 2, 0, 25);
        payers(x, 1, 3, 3, 0, 28);
        payers(x, 4, 0, 3, 1, 20);
        MoonTender alone = CHECK.sea("sea 4;");
        payers(alone, 1, 0, 0, 0, 20);
        payers(alone, 0, 0, 0, 0, 19);
        MoonTender moons = CHECK.sea("sea 4;" + MOON);
        payers(moons, 1, 0, 0, 3, 20);
    }

    private static void payersAll() {
        CHECK.says("PAYERS: sets of HARBORS who bid as they do, were all others' bids 0, by which the HEIGHTS are just so");
        MoonTender x = CHECK.sea("sea 8;" + MOON + eight("purse 0") + "pull paid*(1-min(1,far));");
        payers(x, 256, 0, 255, 0, 20);
        payers(x, 0, 0, 0, 0, 21);
        StringBuilder bids = new StringBuilder("sea 8;" + MOON + eight("purse 0") + "pull paid*(1-min(1,far));");
        for (int h = 0; h < 8; h++) {
            bids.append("pays ").append(letter(h)).append(" m 8;");
        }
        MoonTender y = CHECK.sea(bids.toString());
        payers(y, 1, 0, 0, 0, 20);
        payers(y, 8, 0, 255, 0, 27);
        payers(y, 70, 0, 255, 0, 48);
        payers(y, 8, 0, 255, 0, 69);
        payers(y, 1, 255, 255, 0, 76);
        payers(y, 0, 0, 0, 0, 83);
        y.bid(7, 0, 20);
        payers(y, 1, 255, 255, 0, 20 + 76 - 10);
        payers(y, 1, 128, 128, 0, 20 + 20 - 3);
    }

    private static void payersJustSo() {
        CHECK.says("by which the HEIGHTS are just so");
        MoonTender x = CHECK.sea("sea 4;level 0;" + MOON + HARBORS + "pays h m 3;pays i m 5;" + SEESAW);
        payers(x, 1, 3, 3, 0, 8, 1, 0, 2, -8, 3, 0);
        payers(x, 0, 0, 0, 0, 8, 1, 0, 2, -8, 3, 1);
        payers(x, 0, 0, 0, 0, 7, 1, 0, 2, -8, 3, 0);
        payers(x, 0, 0, 0, 0, 8, 1, 0, 2, -7, 3, 0);
        int[] twenty = new int[40];
        for (int i = 0; i < 20; i++) {
            twenty[2 * i + 1] = 8;
        }
        payers(x, 1, 3, 3, twenty);
        twenty[39] = 9;
        payers(x, 0, 0, 0, twenty);
        payers(x, 0, 0, 0, 0, -1000);
        payers(x, 0, 0, 0, 0, 64535);
    }

    // ---- images

    private static void imageSizes() {
        CHECK.says("AN IMAGE: HOUR (two bytes, the higher first); for each MOON its PLACE, its temper; for each HARBOR its purse "
                + "(two bytes), and for each MOON its bid, what is DUE (two bytes)");
        for (int moons = 0; moons <= 3; moons++) {
            for (int harbors = 0; harbors <= 8; harbors++) {
                StringBuilder sea = new StringBuilder("sea 8;");
                for (int m = 0; m < moons; m++) {
                    sea.append("moon m").append(letter(m)).append(" at ").append(m).append(" goes 0 temper 9;");
                }
                for (int h = 0; h < harbors; h++) {
                    sea.append("harbor h").append(letter(h)).append(" at ").append(h).append(" purse 999 depth 0;");
                }
                MoonTender x = CHECK.sea(sea.toString());
                int size = 3 + 2 * moons + harbors * (2 + 3 * moons);
                CHECK.due("image of " + moons + " moons, " + harbors + " harbors", x.image(), size);
                CHECK.due("its last byte is there", x.octet(size - 1) >= 0, true);
                CHECK.due("none behind it", x.octet(size), -1);
                CHECK.due("it is one of this sea", Check.on(x, Check.image(Check.picture(x))), true);
            }
        }
        CHECK.due("without a sea", new MoonTender().image(), 3);
    }

    private static void imageBytes() {
        CHECK.says("HOUR (two bytes, the higher first)");
        MoonTender x = CHECK.sea("sea 24;moon m at 23 goes 0 temper 9;harbor h at 0 purse 255 depth 0;pays h m 20;");
        int[] first = {0, 0, 23, 9, 0, 255, 20, 0, 0};
        CHECK.due("at first", Arrays.equals(Check.picture(x), first), true);
        int[] most = {39, 15, 23, 9, 39, 15, 20, 39, 15};
        CHECK.due("the most that it can tell", Check.on(x, Check.image(most)), true);
        CHECK.due("hour", x.has(7), 9999);
        CHECK.due("place", x.moon(0, 0), 23);
        CHECK.due("temper", x.moon(0, 2), 9);
        CHECK.due("purse", x.harbor(0, 1), 9999);
        CHECK.due("bid", x.bids(0, 0, 0), 20);
        CHECK.due("due", x.bids(0, 0, 1), 9999);
        CHECK.due("told again", Arrays.equals(Check.picture(x), most), true);
        CHECK.due("the least", Check.on(x, Check.image(new int[9])), true);
        CHECK.due("told again", Arrays.equals(Check.picture(x), new int[9]), true);
        for (int n : new int[] {255, 256, 257}) {
            Check.withHour(x, n);
            Check.withPurse(x, 0, n);
            Check.withDue(x, 0, 0, n);
            int[] told = {n >> 8, n & 255, 0, 0, n >> 8, n & 255, 0, n >> 8, n & 255};
            CHECK.due("all " + n, Arrays.equals(Check.picture(x), told), true);
        }
    }

    private static void imageLastByte() {
        CHECK.says("last a byte: all ahead from 89 on, c = (5 c + it) mod 251");
        MoonTender x = CHECK.sea("sea 4;");
        for (int hour = 0; hour <= 255; hour++) {
            Check.withHour(x, hour);
            x.image();
            CHECK.due("last byte of hour " + hour, x.octet(2), (217 + hour) % 251);
        }
        // 217 + 33 is 250, the greatest one; 217 + 34 is 251, which is 0.
        int[][] rows = {{0, 33, 250, 1}, {0, 34, 0, 1}, {0, 33, 251, 0}, {0, 34, 251, 0}, {0, 34, 1, 0}, {0, 34, 255, 0},
            {0, 35, 1, 1}, {0, 35, 252, 0}, {0, 33, 249, 0}, {0, 33, 255, 0}};
        for (int[] row : rows) {
            MoonTender y = CHECK.sea("sea 4;");
            CHECK.due("bytes " + row[0] + ", " + row[1] + ", " + row[2], Check.on(y, row[0], row[1], row[2]), row[3] == 1);
            CHECK.due("status(5)", y.status(5), 1 - row[3]);
            CHECK.due("hour", y.has(7), row[3] == 1 ? row[1] : 0);
        }
    }
}
