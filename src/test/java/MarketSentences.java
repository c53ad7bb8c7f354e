/** Sentences of buyers, the market: promises 20 to 22. */
final class MarketSentences {
    private static final int MIN = Integer.MIN_VALUE, MAX = Integer.MAX_VALUE;

    private MarketSentences() {
    }

    static void all(Sentences s) {
        buyers(s);
        wants(s);
        worth(s);
        supply(s);
        rests(s);
        rounds(s);
        bounds(s);
        goesRound(s);
        buyer(s);
        market(s);
        marketRefused(s);
        fair(s);
    }

    /** At what price it RESTS (NONE: it GOES ROUND), behind how many ROUNDS. */
    private static void settles(Sentences s, LeftShoes x, int price, int supply, int rest, int rounds) {
        s.is("market(" + price + ", " + supply + ", 0)", x.market(price, supply, 0), rest);
        s.is("market(" + price + ", " + supply + ", 1)", x.market(price, supply, 1), rounds);
    }

    private static void buyers(Sentences s) {
        s.terms("THE MARKET: BUYERS 0 .. 5");
        LeftShoes x = new LeftShoes();
        int wanted = 0;
        for (int k = 0; k < 6; k++) {
            s.is("buyer", x.buyer(1 + k, 50), k);
            wanted += 1 + k;
            settles(s, x, 50, wanted, 50, 0);
        }
        s.is("a seventh", x.buyer(9, 50), -3);
        settles(s, x, 50, wanted, 50, 0);
    }

    private static void wants(Sentences s) {
        s.terms("want so many lefts (1 .. 9),");
        LeftShoes x = new LeftShoes();
        s.is("0", x.buyer(0, 50), -1);
        s.is("10", x.buyer(10, 50), -1);
        settles(s, x, 50, 0, 50, 0);
        s.is("1", x.buyer(1, 50), 0);
        settles(s, x, 50, 1, 50, 0);
        s.is("9", x.buyer(9, 50), 1);
        settles(s, x, 50, 10, 50, 0);
    }

    private static void worth(Sentences s) {
        s.terms("if the price is no more than WORTH (1 .. 99) to them;");
        LeftShoes x = new LeftShoes();
        s.is("0", x.buyer(1, 0), -1);
        s.is("100", x.buyer(1, 100), -1);
        s.is("99", x.buyer(3, 99), 0);
        settles(s, x, 99, 3, 99, 0);
        s.is("1", x.buyer(4, 1), 1);
        settles(s, x, 1, 7, 1, 0);
        settles(s, x, 2, 3, 2, 0);
        s.is("50", x.buyer(5, 50), 2);
        settles(s, x, 49, 8, 49, 0);
        settles(s, x, 50, 8, 50, 0);
        settles(s, x, 51, 3, 51, 0);
    }

    private static void supply(Sentences s) {
        s.terms("SUPPLY (0 .. 60).");
        LeftShoes x = new LeftShoes();
        s.is("-1", x.market(1, -1, 0), -1);
        settles(s, x, 1, 0, 1, 0);
        settles(s, x, 1, 60, -4, 1);
        s.is("61", x.market(1, 61, 0), -1);
        for (int k = 0; k < 6; k++) {
            x.buyer(9, 99);
        }
        settles(s, x, 7, 54, 7, 0);
        settles(s, x, 7, 60, -4, 7);
    }

    private static void rests(Sentences s) {
        s.terms("It RESTS at a price at which as many are wanted as SUPPLY.");
        LeftShoes x = new LeftShoes();
        x.buyer(5, 40);
        settles(s, x, 1, 5, 1, 0);
        settles(s, x, 40, 5, 40, 0);
        settles(s, x, 41, 0, 41, 0);
        settles(s, x, 99, 0, 99, 0);
        settles(s, x, 40, 4, -4, 2);
        settles(s, x, 40, 6, -4, 40);
    }

    private static void rounds(Sentences s) {
        s.terms("From a price (1 .. 99) on, ROUND by ROUND, if it does not:");
        LeftShoes x = new LeftShoes();
        x.buyer(5, 40);
        s.is("0", x.market(0, 5, 0), -1);
        s.is("100", x.market(100, 5, 0), -1);
        settles(s, x, 41, 5, 40, 1);
        settles(s, x, 42, 5, 40, 2);
        settles(s, x, 99, 5, 40, 59);
        settles(s, x, 40, 0, 41, 1);
        settles(s, x, 1, 0, 41, 40);
    }

    private static void bounds(Sentences s) {
        s.terms("more are wanted: it becomes 1 more (99 at most),");
        LeftShoes x = new LeftShoes();
        x.buyer(5, 99);
        settles(s, x, 99, 4, -4, 1);
        settles(s, x, 98, 4, -4, 2);
        settles(s, x, 1, 4, -4, 99);
        LeftShoes y = new LeftShoes();
        y.buyer(5, 98);
        settles(s, y, 98, 0, 99, 1);
        settles(s, y, 1, 0, 99, 98);

        s.terms("else 1 less (1 at least);");
        settles(s, x, 1, 6, -4, 1);
        settles(s, x, 2, 6, -4, 2);
        settles(s, x, 99, 6, -4, 99);
        LeftShoes z = new LeftShoes();
        z.buyer(5, 1);
        settles(s, z, 2, 5, 1, 1);
        settles(s, z, 99, 5, 1, 98);
    }

    private static void goesRound(Sentences s) {
        s.terms("if it becomes one that it was, it GOES ROUND.");
        LeftShoes x = new LeftShoes();
        x.buyer(5, 40);
        settles(s, x, 40, 3, -4, 2);
        settles(s, x, 41, 3, -4, 2);
        settles(s, x, 39, 3, -4, 3);
        settles(s, x, 42, 3, -4, 3);
        settles(s, x, 1, 3, -4, 41);
        settles(s, x, 99, 3, -4, 60);
        LeftShoes none = new LeftShoes();
        settles(s, none, 1, 1, -4, 1);
        settles(s, none, 99, 1, -4, 99);
    }

    private static void buyer(Sentences s) {
        s.promise(20, "A BUYER: its number.");
        LeftShoes x = new LeftShoes();
        s.is("the first", x.buyer(1, 1), 0);
        s.is("the second, alike", x.buyer(1, 1), 1);
        x.fair();
        s.is("the first again", x.buyer(1, 1), 0);

        s.promise(20, "BAD;");
        s.refused("wants too few", -1, y -> y.buyer(0, 1));
        s.refused("wants too many", -1, y -> y.buyer(10, 1));
        s.refused("worth too little", -1, y -> y.buyer(1, 0));
        s.refused("worth too much", -1, y -> y.buyer(1, 100));
        s.refused("extremes", -1, y -> y.buyer(MIN, MAX));
        s.refused("extremes, the other way", -1, y -> y.buyer(MAX, MIN));

        s.promise(20, "FULL: 6.");
        LeftShoes y = new LeftShoes();
        for (int k = 0; k < 5; k++) {
            y.buyer(9, 99);
        }
        s.is("the sixth", y.buyer(9, 99), 5);
        s.is("the seventh", y.buyer(9, 99), -3);
        s.is("BUYERS", y.count(4), 6);
        s.refusedByFull("a seventh", -3, z -> z.buyer(9, 99));
    }

    private static void market(Sentences s) {
        s.promise(21, "THE MARKET from a price on, by SUPPLY: the price at which it RESTS (0; NONE: it GOES ROUND),");
        LeftShoes x = new LeftShoes();
        x.buyer(3, 10);
        x.buyer(4, 20);
        int[][] rests = {{10, 7, 10}, {1, 7, 1}, {15, 7, 10}, {15, 4, 15}, {1, 4, 11}, {99, 4, 20}, {1, 0, 21}, {99, 0, 99},
            {10, 5, -4}, {1, 8, -4}, {50, 60, -4}, {99, 1, -4}};
        for (int[] r : rests) {
            s.is("market(" + r[0] + ", " + r[1] + ", 0)", x.market(r[0], r[1], 0), r[2]);
        }

        s.promise(21, "behind how many ROUNDS it RESTS, or became one that it was (1).");
        int[][] rounds = {{10, 7, 0}, {1, 7, 0}, {15, 7, 5}, {15, 4, 0}, {1, 4, 10}, {99, 4, 79}, {1, 0, 20}, {99, 0, 0},
            {10, 5, 2}, {1, 8, 1}, {50, 60, 50}, {99, 1, 80}};
        for (int[] r : rounds) {
            s.is("market(" + r[0] + ", " + r[1] + ", 1)", x.market(r[0], r[1], 1), r[2]);
        }
    }

    private static void marketRefused(Sentences s) {
        s.promise(21, "BAD.");
        s.refused("price too small", -1, x -> x.market(0, 1, 0));
        s.refused("price too large", -1, x -> x.market(100, 1, 0));
        s.refused("supply too small", -1, x -> x.market(1, -1, 0));
        s.refused("supply too large", -1, x -> x.market(1, 61, 0));
        s.refused("what too small", -1, x -> x.market(1, 1, -1));
        s.refused("what too large", -1, x -> x.market(1, 1, 2));
        s.refused("extremes", -1, x -> x.market(MIN, MAX, MIN));
        s.refused("extremes, the other way", -1, x -> x.market(MAX, MIN, MAX));
    }

    private static void fair(Sentences s) {
        s.promise(22, "All BUYERS go: how many.");
        LeftShoes x = new LeftShoes();
        s.is("none", x.fair(), 0);
        for (int many = 1; many <= 6; many++) {
            for (int k = 0; k < many; k++) {
                s.is("buyer", x.buyer(9, 99), k);
            }
            s.is("all go", x.fair(), many);
            s.is("none is left", x.count(4), 0);
            s.is("nothing is wanted", x.market(1, 0, 0), 1);
            s.is("none goes", x.fair(), 0);
        }
    }
}
