/** Promises 25 to 27: SHIPS, and where MOONS meet. */
public final class ShipsTest {
    private static final Check CHECK = new Check();
    /** Water (10 deep) is where the MOON is alone, and goes round with it. */
    private static final String WAVE = "sea 6;level 0;moon m at 0 goes 1 temper 0;pull 12*(1-min(1,far));"
            + "harbor a at 0 purse 0 depth 0;harbor b at 3 purse 0 depth 0;harbor c at 5 purse 0 depth 0;";
    private static final String DEEP = WAVE.replace("level 0", "level 99").replace("pull 12", "pull 0");
    /** Of four PLACES the one across from the MOON is dry (-5), the others have 15. */
    private static final String DRY = "level 10;pull 0-20*max(0,far-1);harbor a at 0 purse 0 depth 0;"
            + "harbor b at 1 purse 0 depth 0;harbor c at 2 purse 0 depth 0;harbor d at 3 purse 0 depth 0;";

    public static void main(String[] args) {
        promise25();
        promise25Dry();
        promise26();
        promise27();
        CHECK.finish("ShipsTest");
    }

    private static final int[][] WRONG = {{3, 0, 5}, {-1, 0, 5}, {0, 3, 5}, {0, -1, 5}, {0, 1, -1}, {0, 1, 100},
        {0, 0, Integer.MAX_VALUE}, {Integer.MIN_VALUE, 0, 5}};

    private static void promise25() {
        MoonTender x = CHECK.sea(WAVE);
        CHECK.due("with the wave", x.across(0, 1, 5), 3);
        CHECK.due("just floating", x.across(0, 1, 10), 3);
        CHECK.due("too deep", x.across(0, 1, 11), -1);
        CHECK.due("draught 0", x.across(0, 2, 0), 5);
        CHECK.due("dry at the beginning", x.across(1, 0, 5), -1);
        CHECK.due("there already", x.across(0, 0, 10), 0);
        CHECK.due("there, but not floating", x.across(0, 0, 11), -1);
        CHECK.due("there, but dry", x.across(1, 1, 0), -1);
        for (int[] n : WRONG) {
            CHECK.due("across(" + n[0] + ", " + n[1] + ", " + n[2] + ")", x.across(n[0], n[1], n[2]), -1);
        }
        x.hours(1);
        CHECK.due("the wave has gone", x.across(0, 1, 5), -1);
        x.hours(2);
        CHECK.due("and is at b", x.across(1, 2, 5), 2);
        MoonTender high = CHECK.sea(WAVE.replace("level 0", "level 99"));
        CHECK.due("a height of 109", high.height(0, 0), 109);
        CHECK.due("carries 99", high.across(0, 0, 99), 0);
        CHECK.due("and there is no draught of 100", high.across(0, 0, 100), -1);
        CHECK.due("nor then", high.latest(0, 0, 100), -1);
        MoonTender y = CHECK.sea(DEEP);
        CHECK.due("half round", y.across(0, 1, 99), 3);
        CHECK.due("over the ring's end", y.across(0, 2, 99), 1);
        CHECK.due("back over it", y.across(2, 0, 99), 1);
        CHECK.due("two back", y.across(2, 1, 99), 2);
    }

    private static void promise25Dry() {
        MoonTender still = CHECK.sea("sea 4;moon m at 0 goes 0 temper 0;" + DRY);
        CHECK.due("round the dry place", still.across(1, 3, 15), 2);
        CHECK.due("to the dry place", still.across(1, 2, 15), -1);
        CHECK.due("from the dry place", still.across(2, 1, 15), -1);
        MoonTender wait = CHECK.sea("sea 4;moon m at 2 goes 2 temper 0;" + DRY);
        CHECK.due("waits till the place is wet again", wait.across(1, 2, 15), 2);
        CHECK.due("the other place is wet first", wait.across(1, 0, 15), 1);
        MoonTender round = CHECK.sea("sea 4;moon m at 0 goes 1 temper 0;" + DRY);
        CHECK.due("the dry place goes ahead of it", round.across(1, 3, 15), 2);
        CHECK.due("dry now, wet then", round.across(1, 2, 15), 1);
        MoonTender last = CHECK.sea("sea 4;moon m at 2 goes 2 temper 0;" + DRY);
        Check.on(last, Check.image(9998 >> 8, 9998 & 255, 2, 0, 0, 0, 0, 0, 0, 0, 0, 0, 0, 0, 0, 0, 0, 0, 0, 0, 0, 0, 0, 0));
        CHECK.due("hour", last.has(7), 9998);
        CHECK.due("no hour is left to wait", last.across(1, 2, 15), -1);
        CHECK.due("one is left to go", last.across(1, 0, 15), 1);
    }

    private static void promise26() {
        MoonTender x = CHECK.sea(WAVE);
        CHECK.due("the last wave but one", x.latest(0, 1, 5), 42);
        CHECK.due("where it is", x.latest(0, 0, 5), 48);
        CHECK.due("where it was last", x.latest(1, 1, 5), 45);
        CHECK.due("from b to c", x.latest(1, 2, 5), 45);
        CHECK.due("from b to a by the 48th", x.latest(1, 0, 5), 45);
        CHECK.due("from c to b", x.latest(2, 1, 5), 41);
        CHECK.due("too deep", x.latest(0, 1, 11), -1);
        for (int[] n : WRONG) {
            CHECK.due("latest(" + n[0] + ", " + n[1] + ", " + n[2] + ")", x.latest(n[0], n[1], n[2]), -1);
        }
        MoonTender y = CHECK.sea(DEEP);
        CHECK.due("half round", y.latest(0, 1, 99), 45);
        CHECK.due("over the ring's end", y.latest(2, 0, 99), 47);
        CHECK.due("there already", y.latest(1, 1, 99), 48);
        Check.on(y, Check.image(9990 >> 8, 9990 & 255, 0, 0, 0, 0, 0, 0, 0, 0, 0, 0, 0, 0, 0, 0, 0, 0, 0));
        CHECK.due("hour", y.has(7), 9990);
        CHECK.due("by the last hour", y.latest(0, 1, 99), 6);
        y.hours(7);
        CHECK.due("too late", y.latest(0, 1, 99), -1);
        y.undo();
        y.hours(6);
        CHECK.due("just now", y.latest(0, 1, 99), 0);
        MoonTender still = CHECK.sea("sea 4;moon m at 0 goes 0 temper 0;" + DRY);
        CHECK.due("round the dry place", still.latest(1, 3, 15), 46);
        CHECK.due("to the dry place", still.latest(1, 2, 15), -1);
    }

    private static void promise27() {
        MoonTender x = CHECK.sea("sea 6;moon m at 0 goes 1 temper 0;moon n at 3 goes 2 temper 0;");
        CHECK.due("meet(0)", x.meet(0), 3);
        CHECK.due("meet(1)", x.meet(1), 3);
        CHECK.due("meet(2)", x.meet(2), -1);
        CHECK.due("meet(-1)", x.meet(-1), -1);
        x.hours(1);
        CHECK.due("an hour later", x.meet(0), 3);
        x.hours(2);
        CHECK.due("now", x.meet(0), 3);
        CHECK.due("here", x.meet(1), 3);
        x.hours(1);
        CHECK.due("the next time", x.meet(0), 9);
        CHECK.due("at the same place", x.meet(1), 3);
        MoonTender one = CHECK.sea("sea 6;moon m at 4 goes 5 temper 0;");
        CHECK.due("one moon", one.meet(0), 0);
        CHECK.due("its place", one.meet(1), 4);
        MoonTender never = CHECK.sea("sea 6;moon m at 0 goes 1 temper 0;moon n at 3 goes 1 temper 0;");
        CHECK.due("never", never.meet(0), -1);
        CHECK.due("nowhere", never.meet(1), -1);
        MoonTender even = CHECK.sea("sea 6;moon m at 0 goes 2 temper 0;moon n at 3 goes 4 temper 0;");
        CHECK.due("on unlike places for ever", even.meet(0), -1);
        MoonTender three = CHECK.sea("sea 23;moon m at 0 goes 1 temper 0;moon n at 1 goes 2 temper 0;"
                + "moon o at 2 goes 3 temper 0;");
        CHECK.due("three moons", three.meet(0), 22);
        CHECK.due("their place", three.meet(1), 22);
        MoonTender none = CHECK.sea("sea 6;");
        CHECK.due("no moons", none.meet(0), -1);
        CHECK.due("no moons", none.meet(1), -1);
    }
}
