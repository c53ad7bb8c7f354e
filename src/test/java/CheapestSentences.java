/** Sentences of the CHEAPEST WALK and of TO GO it: promises 15, 16. */
final class CheapestSentences {
    private static final int PLAIN = 0, STOUT = 1, MIN = Integer.MIN_VALUE, MAX = Integer.MAX_VALUE;

    private CheapestSentences() {
    }

    static void all(Sentences s) {
        least(s);
        fewest(s);
        first(s);
        soles(s);
        pence(s);
        purse(s);
        inSoManyMinutes(s);
        whatIsTold(s);
        refused(s);
        noSuchWalk(s);
        go(s);
    }

    private static LeftShoes plain() {
        return WalkSentences.wearer(PLAIN, PLAIN, PLAIN);
    }

    private static void least(Sentences s) {
        s.terms("CHEAPEST in so many MINUTES: that WALK which COSTS least,");
        LeftShoes x = plain();
        x.stamp(0, true);
        x.tax(PLAIN, 1);
        WalkSentences.cheapest(s, x, 0, 1, 2, 999, 0, 234, "111111111");
        WalkSentences.cheapest(s, x, 0, 1, 2, 234, 0, 234, "111111111");
        WalkSentences.cheapest(s, x, 0, 1, 2, 233, 16, 228, "011111111");
        WalkSentences.cheapest(s, x, 0, 1, 2, 228, 16, 228, "011111111");
        WalkSentences.cheapest(s, x, 0, 1, 2, 227, 32, 222, "001111111");
        WalkSentences.cheapest(s, x, 0, 1, 2, 180, 144, 180, "000000000");
        WalkSentences.noWalk(s, x, 0, 1, 2, 179);
    }

    /** On such a road, from A (0, or none) with so many SOLES. */
    private static void fewSoles(Sentences s, int a, int[] sorts, int[] soles, int[] muds, int minutes, String row) {
        LeftShoes x = WalkSentences.wearer(sorts[0], sorts[1], sorts[2], soles[0], soles[1], soles[2]);
        for (int mile = 0; mile < 9; mile++) {
            x.road(mile, 0, muds[mile]);
        }
        WalkSentences.cheapest(s, x, a, 1, 2, 999, 0, minutes, row);
        WalkSentences.cheapest(s, x, a, 1, 2, minutes, 0, minutes, row);
        WalkSentences.noWalk(s, x, a, 1, 2, minutes - 1);
    }

    private static void fewest(Sentences s) {
        s.terms("of like ones that takes the fewest MINUTES,");
        // SOLES are few, so that a quicker way to a MILE may be none to the end; rows as a try of all told them.
        fewSoles(s, -1, new int[] {3, 2, 2}, new int[] {0, 21, 4}, new int[] {5, 3, 6, 5, 5, 5, 5, 5, 8}, 334, "131123331");
        fewSoles(s, -1, new int[] {2, 3, 3}, new int[] {0, 19, 4}, new int[] {2, 1, 3, 1, 8, 1, 1, 1, 1}, 323, "221213333");
        fewSoles(s, -1, new int[] {2, 1, 1}, new int[] {0, 15, 4}, new int[] {4, 3, 9, 1, 9, 8, 9, 9, 9}, 357, "331313112");
        LeftShoes x = plain();
        WalkSentences.cheapest(s, x, 0, 1, 2, 999, 0, 180, "000000000");
        x.tax(4, 1);
        x.road(3, 1, 1);
        WalkSentences.cheapest(s, x, 0, 1, 2, 999, 0, 186, "000100000");
        WalkSentences.cheapest(s, x, 0, 1, 2, 186, 0, 186, "000100000");
        WalkSentences.cheapest(s, x, 0, 1, 2, 185, 1, 180, "000000000");
        WalkSentences.cheapest(s, x, 0, 1, -1, 999, 0, 190, "000300000");
        x.road(3, 0, 9);
        WalkSentences.cheapest(s, x, 0, 1, 2, 999, 0, 160 + 35, "000100000");
        WalkSentences.cheapest(s, x, 0, 1, -1, 999, 0, 160 + 57, "000300000");
    }

    private static void first(Sentences s) {
        s.terms("then the first as a row.");
        LeftShoes x = plain();
        x.stamp(0, true);
        x.tax(PLAIN, 1);
        WalkSentences.cheapest(s, x, 0, 1, 2, 215, 16 * 4, 210, "000011111");
        // HOP in a stout one and BARE take 57 each, so that all rows are like.
        LeftShoes y = WalkSentences.wearer(PLAIN, STOUT, PLAIN);
        for (int mile = 0; mile < 9; mile++) {
            y.road(mile, 0, 9);
        }
        WalkSentences.cheapest(s, y, -1, 1, -1, 999, 0, 9 * 57, "223223223");
        WalkSentences.cheapest(s, y, -1, 1, -1, 513, 0, 9 * 57, "223223223");
    }

    private static void soles(Sentences s) {
        s.terms("TO GO it: SOLES are so much less,");
        LeftShoes x = WalkSentences.wearer(PLAIN, PLAIN, PLAIN, 2, 6, 2);
        s.is("2 SHOD, 2 ALIKE, a HOP, 4 BARE", x.go(0, 0, 1, 2, 252), 0);
        for (int shoe = 0; shoe < 3; shoe++) {
            s.is("none is left of " + shoe, x.told(shoe, 2), 0);
        }
        WalkSentences.noWalk(s, x, 0, 1, 2, 999);
        LeftShoes y = WalkSentences.wearer(3, 3, 3, 18, 99, 99);
        s.is("SHOD in silk", y.go(0, 0, 1, 2, 180), 0);
        s.is("A", y.told(0, 2), 0);
        s.is("B", y.told(1, 2), 81);
        s.is("C", y.told(2, 2), 99);
        s.is("ALIKE in silk", y.go(0, 0, 1, 2, 999), 0);
        s.is("B", y.told(1, 2), 63);
        s.is("C", y.told(2, 2), 81);
    }

    private static void pence(Sentences s) {
        s.terms("PENCE (COST by 16, cut) go from the PURSE");
        int[] watched = {1, 15, 16};
        int[] pence = {0, 8, 9};
        for (int k = 0; k < 3; k++) {
            LeftShoes x = plain();
            x.tax(4, 1);
            for (int mile = 0; mile < 9; mile++) {
                x.road(mile, 1, watched[k]);
            }
            s.is("COST", x.cheapest(0, 0, 1, -1, 180, -1), 9 * watched[k]);
            s.is("PENCE", x.go(0, 0, 1, -1, 180), pence[k]);
            s.is("PURSE", x.of(0, 0), 9999 - pence[k]);
        }
        LeftShoes y = plain();
        y.tax(4, 99);
        for (int mile = 0; mile < 9; mile++) {
            y.road(mile, 1, 16);
        }
        s.is("the most that can be", y.go(0, 0, 1, -1, 180), 891);
        s.is("PURSE", y.of(0, 0), 9999 - 891);
        LeftShoes z = plain();
        z.person(5000, 0);
        z.give(0, 1);
        z.give(1, 1);
        z.stamp(0, true);
        z.tax(PLAIN, 1);
        s.is("his PENCE", z.go(1, 0, 1, -1, 180), 9);
        s.is("his PURSE", z.of(1, 0), 4991);
        s.is("another one's", z.of(0, 0), 9999);
    }

    private static void purse(Sentences s) {
        s.terms("(NOT, if it has not so much).");
        int[] purses = {8, 9, 10, 0};
        int[] pence = {-2, 9, 9, -2};
        int[] left = {8, 0, 1, 0};
        for (int k = 0; k < 4; k++) {
            LeftShoes x = taxed(purses[k]);
            s.is("9 pence of " + purses[k], x.go(0, 0, 1, -1, 180), pence[k]);
            s.is("PURSE", x.of(0, 0), left[k]);
            s.is("SOLES of A", x.told(0, 2), pence[k] < 0 ? 99 : 90);
            s.is("SOLES of B", x.told(1, 2), pence[k] < 0 ? 99 : 90);
        }
        LeftShoes y = taxed(0);
        y.tax(PLAIN, 0);
        s.is("nothing of nothing", y.go(0, 0, 1, -1, 180), 0);
        y.stamp(0, false);
        y.tax(4, 1);
        y.road(0, 1, 15);
        s.is("15 sixteenths of nothing: cut, they are no penny", y.go(0, 0, 1, -1, 180), 0);
        y.road(0, 1, 16);
        s.is("a penny of nothing", y.go(0, 0, 1, -1, 180), -2);
    }

    /** One with so much, who in 180 MINUTES goes for 9 pence. */
    private static LeftShoes taxed(int purse) {
        LeftShoes x = new LeftShoes();
        x.person(purse, 0);
        x.shoe(0, 0, PLAIN, 99);
        x.shoe(0, 1, PLAIN, 99);
        x.stamp(0, true);
        x.tax(PLAIN, 1);
        return x;
    }

    private static void inSoManyMinutes(Sentences s) {
        s.promise(15, "CHEAPEST of one with A, B, C in so many MINUTES (1 .. 999):");
        LeftShoes x = plain();
        int[] bad = {0, -1, 1000, MIN, MAX};
        for (int minutes : bad) {
            s.is("in " + minutes, x.cheapest(0, 0, 1, 2, minutes, -1), -1);
            s.is("go in " + minutes, x.go(0, 0, 1, 2, minutes), -1);
        }
        WalkSentences.noWalk(s, x, 0, 1, 2, 1);
        WalkSentences.noWalk(s, x, 0, 1, 2, 179);
        WalkSentences.cheapest(s, x, 0, 1, 2, 180, 0, 180, "000000000");
        WalkSentences.cheapest(s, x, 0, 1, 2, 999, 0, 180, "000000000");
    }

    private static void whatIsTold(Sentences s) {
        s.promise(15, "COST (-1), its MINUTES (-2), GOING of a MILE (0 .. 8).");
        LeftShoes x = WalkSentences.wearer(PLAIN, PLAIN, PLAIN, 2, 99, 2);
        x.stamp(0, true);
        x.tax(PLAIN, 9);
        WalkSentences.cheapest(s, x, 0, 1, 2, 999, 0, 2 * 26 + 4 * 30 + 3 * 40, "112232333");
        WalkSentences.cheapest(s, x, 0, 1, 2, 252, 288, 252, "001123333");
        s.is("what -3", x.cheapest(0, 0, 1, 2, 999, -3), -1);
        s.is("what 9", x.cheapest(0, 0, 1, 2, 999, 9), -1);
        s.is("what MIN", x.cheapest(0, 0, 1, 2, 999, MIN), -1);
        s.is("what MAX", x.cheapest(0, 0, 1, 2, 999, MAX), -1);
        s.is("nothing is gone by telling", x.told(0, 2), 2);
        s.is("nor by telling of B", x.told(1, 2), 99);
    }

    /** Of the rich county: what cheapest() and go() are to answer BAD to. */
    private static final int[][] BAD = {
        {-1, 0, 1, 3, 999}, {4, 0, 1, 3, 999}, {MAX, 0, 1, 3, 999}, {0, 0, 1, 3, 0}, {0, 0, 1, 3, 1000},
        {0, 2, 1, 3, 999}, {0, 5, 1, 3, 999}, {0, 0, 4, 3, 999}, {0, 0, 1, 4, 999}, {3, 0, -1, -1, 999}, {3, 5, 1, -1, 999},
        {0, 1, 3, -1, 999}, {0, 0, 6, -1, 999}, {0, 0, 1, 6, 999}, {0, 0, 0, -1, 999}, {0, 0, 1, 1, 999}, {0, 0, 3, 3, 999},
        {0, 7, 1, 3, 999}, {0, 0, 7, 3, 999}, {0, 0, 1, 7, 999}, {0, -2, 1, 3, 999}, {0, 0, -2, 3, 999}, {0, 0, 1, -2, 999},
        {0, MAX, 1, 3, 999}, {0, 0, MIN, 3, 999}, {0, 0, 1, MAX, 999}, {1, 2, -1, -1, 999}, {1, 2, 2, -1, 999},
        {1, -1, 2, 2, 999}, {1, -1, 0, -1, 999}, {1, -1, 4, -1, 999}, {1, -1, -2, -1, 999}, {1, -1, 7, -1, 999},
        {2, -1, 4, 4, 999}, {2, -1, 2, -1, 999}, {2, -1, 1, -1, 999}, {2, -1, 4, -1, 0}, {2, -1, 4, -1, 1000}};

    private static void refused(Sentences s) {
        s.promise(15, "BAD: also SHOES that are not his, not as told;");
        for (int[] b : BAD) {
            s.refused("cheapest of " + b[0] + " " + b[1] + " " + b[2] + " " + b[3] + " " + b[4], -1,
                    x -> x.cheapest(b[0], b[1], b[2], b[3], b[4], -1));
        }

        s.promise(16, "BAD, NONE as cheapest();");
        for (int[] b : BAD) {
            s.refused("go of " + b[0] + " " + b[1] + " " + b[2] + " " + b[3] + " " + b[4], -1,
                    x -> x.go(b[0], b[1], b[2], b[3], b[4]));
        }
        for (int[] n : NONE) {
            s.refused("go of " + n[0] + " " + n[1] + " " + n[2] + " " + n[3] + " " + n[4], -4,
                    x -> x.go(n[0], n[1], n[2], n[3], n[4]));
        }
    }

    /** Of the rich county: where there is no such WALK; MUD are 37. */
    private static final int[][] NONE = {
        {0, 0, 1, -1, 216}, {0, 0, 1, 3, 1}, {0, -1, -1, -1, 999}, {0, 0, -1, 3, 999}, {3, 5, -1, -1, 999},
        {3, -1, -1, -1, 999}, {1, -1, -1, -1, 999}, {2, -1, 4, -1, 360 + 73}, {1, -1, 2, -1, 1}};

    private static void noSuchWalk(Sentences s) {
        s.promise(15, "NONE: there is no such WALK.");
        for (int[] n : NONE) {
            for (int what = -2; what < 9; what++) {
                int which = what;
                s.refused("cheapest of " + n[0] + " " + n[1] + " " + n[2] + " " + n[3] + " " + n[4] + " " + what, -4,
                        x -> x.cheapest(n[0], n[1], n[2], n[3], n[4], which));
            }
        }
        s.tells("in 217 there is one", 217, x -> x.cheapest(0, 0, 1, -1, 217, -2));
        s.tells("in 434 there is one", 434, x -> x.cheapest(2, -1, 4, -1, 434, -2));
    }

    private static void go(Sentences s) {
        s.promise(16, "TO GO CHEAPEST: pence.");
        LeftShoes x = taxed(30);
        s.is("9 pence", x.go(0, 0, 1, -1, 180), 9);
        s.is("PURSE", x.of(0, 0), 21);
        s.is("for nothing in more", x.go(0, 0, 1, -1, 999), 0);
        s.is("PURSE", x.of(0, 0), 21);
        s.is("A", x.told(0, 2), 90);
        s.is("B", x.told(1, 2), 80);

        s.promise(16, "NOT: the PURSE has not so much.");
        s.refused("81 pence of 20", -2, y -> y.go(0, 0, 1, -1, 217));
        LeftShoes y = taxed(9);
        s.is("9 of 9", y.go(0, 0, 1, -1, 180), 9);
        s.is("9 of 0", y.go(0, 0, 1, -1, 180), -2);
        s.is("SOLES", y.told(0, 2), 90);
        s.is("0 of 0", y.go(0, 0, 1, -1, 320), 0);
    }
}
