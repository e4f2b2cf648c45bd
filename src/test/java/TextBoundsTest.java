/** The bounds that "Terms" I names: how many of each kind, NUMBERS, NAMES, blanks, FAULTS and their places. */
public final class TextBoundsTest {
    private static final Check CHECK = new Check();
    private static final String MOON = "moon m at 0 goes 0 temper 0;";
    private static final String HARBORS = "harbor h at 0 purse 0 depth 0;harbor i at 1 purse 0 depth 0;";
    private static final String BASE = "sea 4;" + MOON + HARBORS;
    /** Every kind of STATEMENT and of PART, with a blank behind each word, number and sign. */
    private static final String[] TOKENS = ("sea 4 ; moon m at 0 goes 1 temper 2 ; harbor h at 3 purse 4 depth 5 ; "
            + "harbor i at 1 purse 0 depth 0 ; pays h m 6 ; owes h i 7 ; "
            + "clause not [ 1 < 2 or all and 3 > min ( 4 , 5 ) ] and 6 = 7 ; "
            + "pull ( paid + 1 ) * 2 / 3 % 4 - far ; earns max ( 1 , height ) ; level 8 ; sulk 9 ;").split(" ");
    private static final String[] OWN = ("sea moon at goes temper harbor purse depth pays owes clause pull earns level "
            + "sulk height paid due far sulks rival hour place or and not all min max").split(" ");

    public static void main(String[] args) {
        statements();
        bytes();
        seaNumber();
        seaFirstAndAlone();
        moonNumbers();
        moonCount();
        harborNumbers();
        harborPlaces();
        harborCount();
        pays();
        owes();
        debtCount();
        clauseCount();
        pullAndEarnsOnce();
        levelAndSulk();
        nameLengths();
        nameLetters();
        namesUnlike();
        namesToldAhead();
        numberLengths();
        numberDigits();
        blanks();
        blanksNeeded();
        ownWords();
        endsTooSoon();
        wrongBytes();
        tooLong();
        wholeWords();
        faultTwo();
        faultThree();
        faultFour();
        faultFive();
        faultFiveClosed();
        faultSix();
        firstAlongTheText();
        CHECK.finish("TextBoundsTest");
    }

    private static MoonTender good(String text) {
        return CHECK.sea(text);
    }

    private static void fault(int code, String marked) {
        CHECK.fault(code, marked);
    }

    private static String letter(int i) {
        return String.valueOf((char) ('a' + i));
    }

    /** A NUMBER in a text: the least and the greatest one can be, those beside them can't. */
    private static void range(String before, int low, int high, String after) {
        good(before + low + after);
        good(before + high + after);
        good(before + String.format("%04d", low) + after);
        good(before + String.format("%04d", high) + after);
        if (low > 0) {
            fault(4, before + "^" + (low - 1) + after);
            fault(4, before + "^0" + after);
        }
        fault(4, before + "^" + (high + 1) + after);
        fault(4, before + "^" + String.format("%04d", high + 1) + after);
        fault(4, before + "^9999" + after);
        fault(1, before + String.format("%04d", high) + "^0" + after);
        fault(1, before + "0000^" + low + after);
        fault(1, before + "^-1" + after);
        fault(1, before + after.replaceFirst("^( ?)", "$1^"));
    }

    private static void statements() {
        CHECK.says("{ STATEMENT ; } (80 at most)");
        MoonTender x = new MoonTender();
        for (int count : new int[] {1, 2, 79, 80}) {
            CHECK.due(count + " statements", Check.sea(x, "sea 4;" + "sulk 7;".repeat(count - 1)), count);
            CHECK.due("fault of " + count, x.fault(0), 0);
        }
        fault(6, "sea 4;" + "sulk 7;".repeat(79) + "^sulk 7;");
        fault(6, "sea 4;" + "sulk 7;".repeat(79) + "^sulk 7;sulk 7;");
        CHECK.due("80 of all kinds", Check.sea(x, full() + "pays d a 1;".repeat(80 - 37)), 80);
        int[] has = {8, 3, 8, 16, 6, 20, 50};
        for (int what = 0; what < has.length; what++) {
            CHECK.due("of 80 of all kinds: has(" + what + ")", x.has(what), has[what]);
        }
        fault(6, full() + "pays d a 1;".repeat(80 - 37) + "^pays d a 1;");
    }

    /** As many as can be of each kind: 37 STATEMENTS. */
    private static String full() {
        StringBuilder s = new StringBuilder("sea 8;");
        for (int m = 0; m < 3; m++) {
            s.append("moon ").append(letter(m)).append(" at 0 goes 0 temper 0;");
        }
        for (int h = 0; h < 8; h++) {
            s.append("harbor ").append(letter(3 + h)).append(" at ").append(h).append(" purse 0 depth 0;");
        }
        return s + "owes d e 1;".repeat(16) + "clause all;".repeat(6) + "pull 0;earns 0;level 20;";
    }

    private static void bytes() {
        CHECK.says("if there would be more than 1600");
        String most = "sea 4;" + " ".repeat(1586) + "level 7;";
        MoonTender x = new MoonTender();
        CHECK.due("1600 bytes", Check.sea(x, most), 2);
        CHECK.due("the last byte counts", Check.sea(x, most.substring(0, 1599) + ","), -1);
        CHECK.due("its fault", x.fault(0), 1);
        CHECK.due("its place", x.fault(1), 1599);
        CHECK.due("1600 bytes that end too soon", Check.sea(x, most.substring(0, 1599) + " "), -1);
        CHECK.due("their fault", x.fault(0), 1);
        CHECK.due("their place", x.fault(1), 1600);
        String longest = "sea 4;moon m at 0 goes 0 temper 0;pull 1" + "+1".repeat(779) + ";";
        CHECK.due("bytes of it", longest.length(), 1599);
        CHECK.due("a sum of 780 parts", Check.sea(x, longest), 3);
        CHECK.due("its pull", x.pull(0, 0), 99);
        Check.sea(x, longest.replace("pull 1", "pull 2").replace("+1+1+1+1;", "-779;"));
        CHECK.due("a sum of 777 parts", x.pull(0, 0), 2 + 775 - 779);
    }

    private static void seaNumber() {
        CHECK.says("sea N (4 .. 24 PLACES, 0 and on, in a ring");
        range("sea ", 4, 24, ";");
        for (int places : new int[] {4, 5, 23, 24}) {
            MoonTender x = good("sea " + places + ";");
            CHECK.due("places", x.has(0), places);
            CHECK.due("the last place", x.height(places - 1, 0), 20);
            CHECK.due("the first place", x.height(0, 0), 20);
            CHECK.due("one beyond the last place", x.height(places, 0), -1000000000);
            CHECK.due("one ahead of the first place", x.height(-1, 0), -1000000000);
        }
    }

    private static void seaFirstAndAlone() {
        CHECK.says("the first STATEMENT, and it alone");
        for (String word : OWN) {
            if (!word.equals("sea")) {
                fault(1, "^" + word + " 4;sea 4;");
            }
        }
        fault(1, "^level 20;sea 4;");
        fault(1, "sea 4;^sea 4;");
        fault(1, "sea 4;level 7;^sea 5;");
        fault(1, "sea 4;^sea");
        good("sea 4;");
    }

    private static void moonNumbers() {
        CHECK.says("moon NAME at N goes N temper N (a PLACE; 0 .. 23 PLACES an HOUR; 0 .. 9; 3 MOONS)");
        range("sea 4;moon m at ", 0, 3, " goes 0 temper 0;");
        range("sea 24;moon m at ", 0, 23, " goes 0 temper 0;");
        range("sea 4;moon m at 0 goes ", 0, 23, " temper 0;");
        range("sea 24;moon m at 0 goes ", 0, 23, " temper 0;");
        range("sea 4;moon m at 0 goes 0 temper ", 0, 9, ";");
        MoonTender x = good("sea 24;moon m at 23 goes 23 temper 9;moon n at 0 goes 0 temper 0;");
        int[] most = {23, 23, 9, 0, 0, 0};
        for (int what = 0; what < 6; what++) {
            CHECK.due("the most: moon(0, " + what + ")", x.moon(0, what), most[what]);
            CHECK.due("the least: moon(1, " + what + ")", x.moon(1, what), 0);
        }
    }

    private static String moons(int count) {
        StringBuilder s = new StringBuilder("sea 9;");
        for (int m = 0; m < count; m++) {
            s.append("moon m").append(letter(m)).append(" at 0 goes 0 temper 0;");
        }
        return s.toString();
    }

    private static void moonCount() {
        CHECK.says("3 MOONS)");
        CHECK.due("no moons", good("sea 9;").has(1), 0);
        CHECK.due("two moons", good(moons(2)).has(1), 2);
        CHECK.due("three moons", good(moons(3)).has(1), 3);
        fault(6, moons(3) + "^moon d at 0 goes 0 temper 0;");
        fault(6, moons(3) + "level 3; ^moon");
        fault(6, moons(3) + "^moon ma at 99 goes 99 temper 99;");
    }

    private static void harborNumbers() {
        CHECK.says("harbor NAME at N purse N depth N (a PLACE without one; 0 .. 999; 0 .. 99; 8 HARBORS)");
        range("sea 4;harbor h at ", 0, 3, " purse 0 depth 0;");
        range("sea 24;harbor h at ", 0, 23, " purse 0 depth 0;");
        range("sea 4;harbor h at 0 purse ", 0, 999, " depth 0;");
        range("sea 4;harbor h at 0 purse 0 depth ", 0, 99, ";");
        MoonTender x = good("sea 4;harbor h at 3 purse 999 depth 99;harbor i at 0 purse 0 depth 0;");
        CHECK.due("the greatest place", x.harbor(0, 0), 3);
        CHECK.due("the fullest purse", x.harbor(0, 1), 999);
        CHECK.due("the greatest depth", x.harbor(0, 2), 99);
        CHECK.due("the least place", x.harbor(1, 0), 0);
        CHECK.due("an empty purse", x.harbor(1, 1), 0);
        CHECK.due("the least depth", x.harbor(1, 2), 0);
    }

    private static void harborPlaces() {
        CHECK.says("a PLACE that has a HARBOR, too");
        String all = "sea 4;";
        for (int h = 0; h < 4; h++) {
            good(all);
            all += "harbor h" + letter(h) + " at " + (3 - h) + " purse 0 depth 0;";
            for (int p = 3; p >= 3 - h; p--) {
                fault(4, all + "harbor x at ^" + p + " purse 0 depth 0;");
                fault(4, all + "harbor x at ^000" + p + " purse 0 depth 0;");
            }
        }
        CHECK.due("a harbor at every place", good(all).has(2), 4);
        fault(4, all + "harbor x at ^4 purse 0 depth 0;");
        CHECK.due("at a moon's place", good("sea 4;" + MOON + HARBORS).harbor(0, 0), 0);
        CHECK.due("moons at a harbor's place", good(BASE + "moon n at 0 goes 0 temper 0;").moon(1, 0), 0);
    }

    private static String harbors(int count) {
        StringBuilder s = new StringBuilder("sea 9;");
        for (int h = 0; h < count; h++) {
            s.append("harbor h").append(letter(h)).append(" at ").append(h).append(" purse 0 depth 0;");
        }
        return s.toString();
    }

    private static void harborCount() {
        CHECK.says("8 HARBORS)");
        CHECK.due("no harbors", good("sea 9;").has(2), 0);
        CHECK.due("seven harbors", good(harbors(7)).has(2), 7);
        CHECK.due("eight harbors", good(harbors(8)).has(2), 8);
        fault(6, harbors(8) + "^harbor x at 8 purse 0 depth 0;");
        fault(6, harbors(8) + "level 3; ^harbor");
        fault(6, harbors(8) + "^harbor ha at 0 purse 9999 depth 100;");
    }

    private static void pays() {
        CHECK.says("pays NAME NAME N (a HARBOR, a MOON; 0 .. 20; the last one of these two counts; 0 without)");
        range(BASE + "pays h m ", 0, 20, ";");
        CHECK.due("without", good(BASE).bids(0, 0, 0), 0);
        CHECK.due("the least", good(BASE + "pays h m 0;").bids(0, 0, 0), 0);
        CHECK.due("the most", good(BASE + "pays h m 20;").bids(0, 0, 0), 20);
        CHECK.due("the last one", good(BASE + "pays h m 20;pays h m 1;").bids(0, 0, 0), 1);
        CHECK.due("the last one, 0", good(BASE + "pays h m 20;pays h m 0;").bids(0, 0, 0), 0);
        MoonTender x = good(BASE + "pays h m 3;pays i m 4;pays h m 5;");
        CHECK.due("of these two: h", x.bids(0, 0, 0), 5);
        CHECK.due("of these two: i", x.bids(1, 0, 0), 4);
        MoonTender y = good(BASE + "pays h m 1;".repeat(75) + "pays h m 7;");
        CHECK.due("as often as there are statements", y.bids(0, 0, 0), 7);
        fault(3, BASE + "pays ^m h 1;");
    }

    private static void owes() {
        CHECK.says("owes NAME NAME N (two unlike HARBORS, the first one owes the second one; 1 .. 999; 16 DEBTS)");
        range(BASE + "owes h i ", 1, 999, ";");
        range(BASE + "owes i h ", 1, 999, ";");
        fault(3, BASE + "owes h ^h 1;");
        fault(3, BASE + "owes i ^i 1;");
        fault(3, BASE + "owes h ^m 1;");
        fault(3, BASE + "owes ^m h 1;");
        MoonTender x = good(BASE + "owes h i 999;owes i h 1;");
        CHECK.due("h owes", x.harbor(0, 6), 999);
        CHECK.due("h is owed", x.harbor(0, 7), 1);
        CHECK.due("i owes", x.harbor(1, 6), 1);
        CHECK.due("i is owed", x.harbor(1, 7), 999);
    }

    private static void debtCount() {
        CHECK.says("16 DEBTS)");
        CHECK.due("no debts", good(BASE).has(3), 0);
        CHECK.due("15 debts", good(BASE + "owes h i 9;".repeat(15)).has(3), 15);
        MoonTender x = good(BASE + "owes h i 999;".repeat(16));
        CHECK.due("16 debts", x.has(3), 16);
        CHECK.due("all of them", x.harbor(0, 6), 16 * 999);
        CHECK.due("all of them, owed", x.harbor(1, 7), 16 * 999);
        fault(6, BASE + "owes h i 9;".repeat(16) + "^owes i h 9;");
        fault(6, BASE + "owes h i 9;".repeat(16) + "^owes h h 0;");
    }

    private static void clauseCount() {
        CHECK.says("clause TEST (6 CLAUSES)");
        CHECK.due("no clause", good(BASE).has(4), 0);
        CHECK.due("five clauses", good(BASE + "clause all;".repeat(5)).has(4), 5);
        MoonTender x = good(BASE + "clause all;".repeat(5) + "clause not all;");
        CHECK.due("six clauses", x.has(4), 6);
        CHECK.due("the sixth one counts", x.broken(2), 5);
        fault(6, BASE + "clause all;".repeat(6) + "^clause all;");
        fault(6, BASE + "clause all;".repeat(6) + "^clause;");
    }

    private static void pullAndEarnsOnce() {
        CHECK.says("pull SUM, earns SUM (one each)");
        good("sea 4;");
        good("sea 4;pull 0;earns 0;");
        good("sea 4;earns 0;pull 0;");
        fault(6, "sea 4;pull 0;^pull 0;");
        fault(6, "sea 4;earns 0;^earns 0;");
        fault(6, "sea 4;pull 0;earns 0;^pull");
        fault(6, "sea 4;earns 0;pull 0;^earns ;");
    }

    private static void levelAndSulk() {
        CHECK.says("level N (0 .. 99), sulk N (1 .. 999): the last one of each counts (20 and 50 without)");
        range("sea 4;level ", 0, 99, ";");
        range("sea 4;sulk ", 1, 999, ";");
        MoonTender none = good("sea 4;");
        CHECK.due("level without", none.has(5), 20);
        CHECK.due("sulk without", none.has(6), 50);
        MoonTender least = good("sea 4;level 99;sulk 999;level 0;sulk 1;");
        CHECK.due("the least level", least.has(5), 0);
        CHECK.due("the least sulk", least.has(6), 1);
        CHECK.due("height by it", least.height(3, 0), 0);
        MoonTender most = good("sea 4;sulk 1;level 0;sulk 999;level 99;");
        CHECK.due("the most level", most.has(5), 99);
        CHECK.due("the most sulk", most.has(6), 999);
        CHECK.due("height by it", most.height(3, 0), 99);
    }

    private static void nameLengths() {
        CHECK.says("NAMES: 1 to 6 letters");
        String six = "abcdef";
        for (int length = 1; length <= 6; length++) {
            String name = six.substring(0, length);
            MoonTender x = good("sea 4;moon " + name + " at 0 goes 0 temper 0;harbor z" + name.substring(1)
                    + " at 0 purse 0 depth 0;pays z" + name.substring(1) + " " + name + " 7;");
            CHECK.due("bid by names of " + length, x.bids(0, 0, 0), 7);
            for (int k = 0; k < 6; k++) {
                CHECK.due("letter " + k + " of " + name, x.letter(0, 0, k), k < length ? k + 1 : 0);
                CHECK.due("letter " + k + " of z..", x.letter(1, 0, k), k == 0 ? 26 : k < length ? k + 1 : 0);
            }
        }
        fault(1, "sea 4;moon abcdef^g at 0 goes 0 temper 0;");
        fault(1, "sea 4;moon abcdef^ghijkl at 0 goes 0 temper 0;");
        fault(1, "sea 4;harbor abcdef^g at 0 purse 0 depth 0;");
        fault(1, BASE + "pays abcdef^g m 1;");
        fault(1, BASE + "pays h abcdef^g 1;");
        fault(1, BASE + "owes h abcdef^g 1;");
        fault(1, "sea 4;moon ^at 0 goes 0 temper 0;");
    }

    private static void nameLetters() {
        CHECK.says("1 to 6 letters");
        MoonTender x = good("sea 4;moon azazaz at 0 goes 0 temper 0;moon z at 0 goes 0 temper 0;");
        for (int k = 0; k < 6; k++) {
            CHECK.due("letter " + k, x.letter(0, 0, k), k % 2 == 0 ? 1 : 26);
        }
        for (String other : new String[] {"`", "{", "A", "Z", "@", "_", "\u00e1", "\u00fa", "\u007f"}) {
            fault(1, "sea 4;moon ^" + other + " at 0 goes 0 temper 0;");
            fault(1, "sea 4;moon a^" + other + " at 0 goes 0 temper 0;");
            fault(1, "sea 4;moon abcdef^" + other + " at 0 goes 0 temper 0;");
        }
        fault(1, "sea 4;moon a^1 at 0 goes 0 temper 0;");
        fault(1, "sea 4;moon ^1 at 0 goes 0 temper 0;");
    }

    private static void namesUnlike() {
        CHECK.says("unlike ones (of all sorts)");
        fault(2, BASE + "moon ^m at 0 goes 0 temper 0;");
        fault(2, BASE + "moon ^h at 0 goes 0 temper 0;");
        fault(2, BASE + "moon ^i at 0 goes 0 temper 0;");
        fault(2, BASE + "harbor ^m at 2 purse 0 depth 0;");
        fault(2, BASE + "harbor ^h at 2 purse 0 depth 0;");
        fault(2, BASE + "harbor ^i at 2 purse 0 depth 0;");
        good("sea 4;moon abcdef at 0 goes 0 temper 0;harbor abcdeg at 0 purse 0 depth 0;"
                + "moon bbcdef at 0 goes 0 temper 0;harbor abcde at 1 purse 0 depth 0;");
        fault(2, "sea 4;moon abcdef at 0 goes 0 temper 0;harbor ^abcdef at 0 purse 0 depth 0;");
        MoonTender x = good("sea 4;moon a at 0 goes 0 temper 0;moon aa at 0 goes 0 temper 0;"
                + "moon aaaaaa at 0 goes 0 temper 0;harbor aaaaa at 0 purse 0 depth 0;pays aaaaa aa 3;pays aaaaa aaaaaa 4;");
        CHECK.due("a", x.bids(0, 0, 0), 0);
        CHECK.due("aa", x.bids(0, 1, 0), 3);
        CHECK.due("aaaaaa", x.bids(0, 2, 0), 4);
    }

    private static void namesToldAhead() {
        CHECK.says("told ahead of where they are asked");
        fault(3, "sea 4;pays ^h m 1;" + MOON + HARBORS);
        fault(3, "sea 4;" + HARBORS + "pays h ^m 1;" + MOON);
        fault(3, "sea 4;harbor h at 0 purse 0 depth 0;owes h ^i 1;harbor i at 1 purse 0 depth 0;");
        good("sea 4;" + HARBORS + MOON + "pays h m 1;owes i h 1;");
    }

    private static void numberLengths() {
        CHECK.says("NUMBERS: 1 to 4 digits");
        for (String number : new String[] {"7", "07", "007", "0007"}) {
            CHECK.due("level " + number, good("sea 4;level " + number + ";").has(5), 7);
            CHECK.due("pull " + number, good("sea 4;" + MOON + "pull " + number + ";").pull(0, 0), 7);
        }
        fault(1, "sea 4;level 0000^7;");
        fault(1, "sea 4;level 0000^71;");
        fault(1, "sea 4;pull 0000^7;");
        fault(1, "sea 4;clause 1<1000^0;");
        fault(1, "sea 4;pull 9999^9;");
        CHECK.due("the greatest number", good("sea 4;" + MOON + "pull 9999-9998;").pull(0, 0), 1);
    }

    private static void numberDigits() {
        CHECK.says("1 to 4 digits");
        for (int digit = 0; digit <= 9; digit++) {
            CHECK.due("digit " + digit, good("sea 4;level " + digit + ";").has(5), digit);
            CHECK.due("digits " + digit, good("sea 4;level " + digit + digit + ";").has(5), 11 * digit);
        }
        fault(1, "sea 4;level 7^:;");
        fault(1, "sea 4;level ^:;");
        fault(1, "sea 4;level 7^/;");
        fault(1, "sea 4;level ^/;");
        fault(1, "sea 4;level 7^.0;");
        fault(1, "sea 4;level ^+7;");
        fault(1, "sea 4;level 7^\u00b2;");
    }

    private static void blanks() {
        CHECK.says("Blanks (10, 32) are where one likes");
        String spaced = String.join(" ", TOKENS);
        good(spaced);
        good(" " + spaced + " ");
        good("\n" + String.join("\n", TOKENS) + "\n");
        good(" \n \n " + String.join("\n \n", TOKENS).replace("sea", "sea  ") + " \n \n");
        good(spaced.replaceAll(" ?([^a-z0-9 ]) ?", "$1"));
        for (int c : new int[] {0, 1, 9, 11, 12, 13, 31, 33, 127, 128, 138, 160, 255}) {
            fault(1, "^" + (char) c + "sea 4;");
            fault(1, "sea^" + (char) c + "4;");
            fault(1, "sea 4^" + (char) c + ";");
            fault(1, "sea 4;^" + (char) c);
            fault(1, "sea 4;level 7;^" + (char) c + "level 8;");
        }
    }

    private static void blanksNeeded() {
        CHECK.says("words and numbers side by side need one");
        fault(1, "sea^4;");
        fault(1, "sea 4;moon m at^0 goes 0 temper 0;");
        fault(1, "sea 4;moon m at 0^goes 0 temper 0;");
        fault(1, "sea 4;moon m at 0 goes^0 temper 0;");
        fault(1, "sea 4;moon m at 0 goes 0^temper 0;");
        fault(1, "sea 4;moon m at 0 goes 0 temper^0;");
        fault(1, "sea 4;harbor h at 0^purse 0 depth 0;");
        fault(1, "sea 4;harbor h at 0 purse 0^depth 0;");
        fault(1, "sea 4;^moonm at 0 goes 0 temper 0;");
        fault(1, "sea 4;harbor^h at 0 purse 0 depth 0;");
        fault(1, "sea 4;moon mat ^0 goes 0 temper 0;");
        fault(1, BASE + "pays h m^1;");
        fault(3, BASE + "pays ^hm 1;");
        fault(1, "sea 4;clause 1<2^or 1<2;");
        fault(1, "sea 4;clause 1<2 or^1<2;");
        fault(1, "sea 4;clause not^1<2;");
        fault(1, "sea 4;clause ^notall;");
        fault(1, "sea 4;level^7;");
        fault(1, "sea 4;pull^7;");
        fault(1, "sea 4;pull 7^paid;");
        fault(1, "sea 4;level 7^abcdefgh;");
        fault(1, "sea 4;level^00007;");
        good("sea 4;clause not[1<2]or[all]and(1)<min(1,2);pull(1);earns(2);");
    }

    private static void ownWords() {
        CHECK.says("an OWN WORD where a NAME must be");
        for (String word : OWN) {
            fault(1, "sea 4;moon ^" + word + " at 0 goes 0 temper 0;");
            fault(1, "sea 4;harbor ^" + word + " at 0 purse 0 depth 0;");
            fault(1, BASE + "pays ^" + word + " m 1;");
            fault(1, BASE + "pays h ^" + word + " 1;");
            fault(1, BASE + "owes ^" + word + " i 1;");
            fault(1, BASE + "owes h ^" + word + " 1;");
            String shorter = word.substring(0, word.length() - 1);
            for (String other : new String[] {word + "q", "q" + word, shorter, shorter + "q"}) {
                if (other.length() <= 6 && !java.util.Arrays.asList(OWN).contains(other)) {
                    good("sea 4;moon " + other + " at 0 goes 0 temper 0;");
                }
            }
        }
    }

    private static String upTo(int count) {
        return String.join(" ", java.util.Arrays.copyOf(TOKENS, count));
    }

    private static void endsTooSoon() {
        CHECK.says("at the text's length, if it ends too soon");
        fault(1, "^");
        fault(1, " ^");
        fault(1, "\n\n \n^");
        int statements = 0;
        for (int count = 1; count <= TOKENS.length; count++) {
            if (TOKENS[count - 1].equals(";")) {
                statements++;
                MoonTender x = new MoonTender();
                CHECK.due("whole <" + upTo(count) + ">", Check.sea(x, upTo(count)), statements);
                CHECK.due("whole with blanks behind it", Check.sea(x, upTo(count) + " \n"), statements);
            } else {
                fault(1, upTo(count) + "^");
                fault(1, upTo(count) + " \n ^");
            }
        }
    }

    private static void wrongBytes() {
        CHECK.says("1 the first byte with which no SEA goes on");
        for (int count = 0; count < TOKENS.length; count++) {
            String ahead = count == 0 ? "" : upTo(count) + " ";
            for (String sign : new String[] {"#", "{", "}", "A", "\t", "\0", "\u00ff", "."}) {
                fault(1, ahead + "^" + sign);
            }
        }
        for (String sign : ";+-*/%()[],<>=".split("")) {
            fault(1, "^" + sign);
            fault(1, "sea ^" + sign);
            fault(1, "sea 4;^" + sign);
            fault(1, "sea 4;moon ^" + sign);
        }
    }

    private static void tooLong() {
        CHECK.says("a 7th letter, a 5th digit at itself, whatever may stand there");
        for (int count = 0; count <= TOKENS.length; count++) {
            String ahead = count == 0 ? "" : upTo(count) + " ";
            for (String letter : new String[] {"a", "g", "z"}) {
                fault(1, ahead + "abcdef^" + letter);
                fault(1, ahead + "harbor^" + letter + " 1");
            }
            for (String digit : new String[] {"0", "5", "9"}) {
                fault(1, ahead + "1234^" + digit + ";");
                fault(1, ahead + "0000^" + digit);
            }
        }
        for (int sign : ";+-*/%()[],<>=".toCharArray()) {
            fault(1, "sea 4 00" + sign + "^0");
            fault(1, "sea 4 ^00" + sign);
            fault(1, "sea 4;clause min 00" + sign + "^0");
            fault(1, "sea 4;pull 1 00" + sign + "^0 1;");
            fault(1, "sea 4;clause 1 ^00" + sign + " 1;");
        }
    }

    private static void wholeWords() {
        CHECK.says("words and numbers whole, at their first byte");
        fault(1, "^seb 4;");
        fault(1, "^se");
        fault(1, "^s");
        fault(1, "sea 4;^moo");
        fault(1, "sea 4;^moons m at 0 goes 0 temper 0;");
        fault(1, "sea 4;moon m ^a 0 goes 0 temper 0;");
        fault(1, "sea 4;moon m at 0 ^goe 0 temper 0;");
        fault(1, "sea 4;moon m at 0 ^goess 0 temper 0;");
        fault(1, "sea 4;pull ^pai;");
        fault(1, "sea 4;pull ^paids;");
        fault(1, "sea 4;clause ^al;");
        fault(1, "sea 4;level 7 ^8;");
        fault(1, "sea 4;level 7 ^8888;");
        fault(1, "sea 4;^7777;");
    }

    private static void faultTwo() {
        CHECK.says("2 a NAME to be given that is there already, at its first byte");
        fault(2, BASE + "moon   ^m");
        fault(2, BASE + "harbor\n^h;");
        fault(2, BASE + "moon ^m 7");
        fault(2, "sea 4;moon abcdef at 0 goes 0 temper 0;moon ^abcdef at 9");
    }

    private static void faultThree() {
        CHECK.says("3 a NAME that is none of what is asked, or the second HARBOR that is the first one, at its first byte");
        fault(3, BASE + "pays ^x m 1;");
        fault(3, BASE + "pays ^m m 1;");
        fault(3, BASE + "pays h ^x 1;");
        fault(3, BASE + "pays h ^i 1;");
        fault(3, BASE + "owes ^x i 1;");
        fault(3, BASE + "owes ^m i 1;");
        fault(3, BASE + "owes h ^x 1;");
        fault(3, BASE + "owes h ^m 1;");
        fault(3, BASE + "owes h   ^h 1;");
        fault(3, BASE + "pays ^hh m 1;");
        fault(3, BASE + "pays ^x");
        good(BASE + "owes i h 1;");
    }

    private static void faultFour() {
        CHECK.says("4 a NUMBER that can't be (a PLACE that has a HARBOR, too), at its first byte");
        fault(4, "sea   ^3");
        fault(4, "sea ^0003;");
        fault(4, "sea 4;moon m at ^4");
        fault(4, BASE + "harbor j at ^1");
        fault(4, BASE + "harbor j at ^0001 purse 0 depth 0;");
        fault(4, "sea ^3x");
        fault(4, "sea ^3 4;");
        good(BASE + "harbor j at 2 purse 0 depth 0;");
    }

    private static void faultFive() {
        CHECK.says("5 the 8th ( [ not that is open at once (not until its FACT ends), at it");
        String[] opened = {"not ", "[", "not [", "[not "};
        for (String open : opened) {
            String seven = open.repeat(7 / kinds(open)) + (kinds(open) == 2 ? "not " : "");
            good("sea 4;clause " + seven + "all" + closed(seven) + ";");
            good("sea 4;clause " + seven + "1<2" + closed(seven) + ";");
            fault(5, "sea 4;clause " + seven + "^not all");
            fault(5, "sea 4;clause " + seven + "^[all");
            fault(5, "sea 4;clause " + seven + "^(1)<2");
            fault(5, "sea 4;clause " + seven + "min^(1,2)<2");
            fault(5, "sea 4;clause " + seven + "1<2+3*^(4)");
            fault(1, "sea 4;clause " + seven + "^;");
        }
        String[][] sums = {{"(((((((", ")))))))"}, {"min(".repeat(7), ",1)".repeat(7)}, {"max(1,".repeat(7), ")))))))"},
            {"min(max(1,2),(".repeat(3) + "(", ")))))))"}, {"(1)+(2)*(5+".repeat(7), ")))))))"}};
        for (String word : new String[] {"pull ", "earns "}) {
            for (String[] seven : sums) {
                good("sea 4;" + word + seven[0] + "1" + seven[1] + ";");
                fault(5, "sea 4;" + word + seven[0] + "^(1)" + seven[1] + ";");
                fault(5, "sea 4;" + word + seven[0] + "max^(1,2)" + seven[1] + ";");
                fault(5, "sea 4;" + word + seven[0] + "1+2*^(3)" + seven[1] + ";");
                fault(1, "sea 4;" + word + seven[0] + "^[1");
                fault(1, "sea 4;" + word + seven[0] + "max^;");
            }
        }
    }

    private static int kinds(String open) {
        return open.contains("not ") && open.contains("[") ? 2 : 1;
    }

    private static String closed(String open) {
        return "]".repeat((int) open.chars().filter(c -> c == '[').count());
    }

    private static void faultFiveClosed() {
        CHECK.says("(not until its FACT ends)");
        good("sea 4;clause " + "not not not not not not not all and ".repeat(3) + "all;");
        good("sea 4;clause " + "not not not not not not not 1<2 or ".repeat(3) + "all;");
        good("sea 4;clause not [not [not [not all and not all or not all]]];");
        fault(5, "sea 4;clause not [not [not [not ^[all]]]];");
        good("sea 4;clause [[[[[[not all]]]]]] and [[[[[[[all]]]]]]];");
        good("sea 4;clause not not not not not not (1)<(2);");
        good("sea 4;clause not not not not not not (1)+min(2,3)*(4)<(2) and (1)<(2);");
        fault(5, "sea 4;clause not not not not not not (1)<(2+^(3));");
        fault(5, "sea 4;clause not not not not not not not 1<^(2);");
        good("sea 4;pull " + "(((((((1)))))))+".repeat(9) + "min(1,2)*max((1),((((((2)))))));");
        fault(5, "sea 4;pull " + "(((((((1)))))))+".repeat(9) + "max((1),((((((^(2)))))))));");
        good("sea 4;" + "clause [[[[[[[all]]]]]]];".repeat(6) + "pull (((((((1)))))));earns (((((((1)))))));");
    }

    private static void faultSix() {
        CHECK.says("6 one too many of a kind of STATEMENT (a second pull, earns, too), or the 81st STATEMENT "
                + "(whatever it is), at its first byte");
        String eighty = "sea 4;" + "sulk 7;".repeat(79);
        String[] all = {"level 7;", "sea 4;", "moon m at 0 goes 0 temper 0;", ";", "#", "7;", "abcdefgh", "x", "\t", "99999",
            "pays h m 1;", "clause", "\u00ff", "sulk 0;"};
        for (String statement : all) {
            fault(6, eighty + "^" + statement);
            fault(6, eighty + " \n^" + statement);
        }
        good(eighty + " \n");
        fault(1, "sea 4;" + "sulk 7;".repeat(78) + "^;");
        fault(1, "sea 4;" + "sulk 7;".repeat(78) + "^#");
        fault(1, "sea 4;" + "sulk 7;".repeat(78) + "sulk 7^");
        fault(6, moons(3) + "   ^moon d");
        fault(6, harbors(8) + "\n^harbor d");
        fault(6, BASE + "owes h i 1;".repeat(16) + " ^owes");
        fault(6, BASE + "clause all;".repeat(6) + " ^clause");
        fault(6, BASE + "pull 0; ^pull");
        fault(6, BASE + "earns 0; ^earns");
        good("sea 4;" + "level 1;".repeat(39) + "sulk 1;".repeat(40));
    }

    private static void firstAlongTheText() {
        CHECK.says("FAULTS, the first along the text");
        String base = BASE + "pull 0;";
        String[] faults = {"level ^;", "moon ^m at 0 goes 0 temper 0;", "pays ^m m 0;", "level ^100;",
            "clause [[[[[[[^[all]]]]]]]];", "^pull 0;"};
        for (int i = 0; i < 6; i++) {
            for (int j = 0; j < 6; j++) {
                fault(i + 1, base + faults[i] + faults[j].replace("^", ""));
                fault(i + 1, base + "level 7;" + faults[i] + "sulk 7;" + faults[j].replace("^", ""));
            }
        }
        fault(2, base + "moon ^m at 9 goes 99 temper 99;");
        fault(4, base + "moon n at ^9 goes 99 temper 99;");
        fault(4, base + "moon n at 0 goes ^99 temper 99;");
        fault(4, base + "harbor n at ^1 purse 9999 depth 999;");
        fault(4, base + "harbor n at 2 purse ^9999 depth 999;");
        fault(3, base + "pays ^x y 99;");
        fault(3, base + "pays h ^y 99;");
        fault(3, base + "owes h ^h 0;");
        fault(1, base + "pays h ^at 99;");
        fault(3, base + "pays ^x 99;");
    }
}
