/** A SEA that can be reckoned by hand, and its first HOURS as they were reckoned by hand. */
final class Example {
    static final String SEA = "sea 6;moon a at 0 goes 1 temper 2;moon b at 3 goes 2 temper 5;"
            + "harbor h at 0 purse 10 depth 20;harbor i at 3 purse 4 depth 21;harbor j at 5 purse 0 depth 0;"
            + "pays h a 3;pays i b 2;pays j a 1;pays j b 1;owes h i 12;owes i j 5;owes j h 1;"
            + "clause height>18 or purse>5;clause due<3;pull paid*(1-min(far,1));earns height-19;sulk 5;";
    static final int STATEMENTS = 18;
    static final int PLACES = 6;
    static final int HARBORS = 3;

    /** By HOURS AHEAD. a pulls 4 at its PLACE, b 3 at its: T is 7, so all lose 1 and PLACE 0 one more. */
    static final int[][] HEIGHTS = {
        {22, 19, 19, 22, 19, 19},
        {18, 23, 19, 19, 19, 22},
        {18, 22, 23, 19, 19, 19},
        {18, 19, 19, 26, 19, 19},
        {18, 19, 19, 19, 23, 22},
        {18, 22, 19, 19, 19, 23},
        {22, 19, 19, 22, 19, 19}};
    static final int[][] MOONS_AT = {{0, 3}, {1, 5}, {2, 1}, {3, 3}, {4, 5}, {5, 1}, {0, 3}};
    static final int[][] PURSES = {{10, 4, 0}, {10, 5, 0}, {7, 3, 0}, {4, 1, 0}, {1, 6, 0}, {1, 4, 0}, {1, 2, 2}};
    /** From h to a, from j to a, from j to b; i always has what it bids. */
    static final int[][] DUES = {{0, 0, 0}, {0, 1, 1}, {0, 0, 1}, {0, 1, 2}, {0, 2, 3}, {3, 0, 4}, {6, 0, 4}};
    static final int[][] STRANDED = {{0, 0, 0}, {1, 1, 0}, {1, 1, 0}, {1, 0, 0}, {1, 1, 0}, {1, 1, 0}, {0, 0, 0}};

    private Example() {
    }

    static int[] duesFrom(int t) {
        return new int[] {DUES[t][0], 0, DUES[t][1] + DUES[t][2]};
    }
}
