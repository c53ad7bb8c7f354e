/** Sentences of GOING: MINUTES, SOLES, COST, what a WALK may be: Terms 2, promise 14. */
final class WalkSentences {
    private static final int PLAIN = 0, STOUT = 1, CLOG = 2, SILK = 3, MIN = Integer.MIN_VALUE, MAX = Integer.MAX_VALUE;

    private WalkSentences() {
    }

    static void all(Sentences s) {
        goings(s);
        minutesByMud(s);
        stoutAndClogs(s);
        minutes(s);
        minutesRefused(s);
        wear(s);
        cost(s);
        nineMiles(s);
        threeShoes(s);
        none(s);
        unlike(s);
        eachMileOne(s);
        hops(s);
        bare(s);
        solesMustDo(s);
        oneFoot(s);
    }

    /** One with both FEET, 9999 pence: a left one, two right ones of these SORTS, all of 99. */
    static LeftShoes wearer(int a, int b, int c) {
        return wearer(a, b, c, 99, 99, 99);
    }

    static LeftShoes wearer(int a, int b, int c, int solesA, int solesB, int solesC) {
        LeftShoes x = new LeftShoes();
        x.person(9999, 0);
        x.shoe(0, 0, a, solesA);
        x.shoe(0, 1, b, solesB);
        x.shoe(0, 1, c, solesC);
        return x;
    }

    /** The CHEAPEST of person 0: its COST, MINUTES, row; or that there is none. */
    static void cheapest(Sentences s, LeftShoes x, int a, int b, int c, int limit, int cost, int minutes, String row) {
        String call = "cheapest(0, " + a + ", " + b + ", " + c + ", " + limit + ", ";
        s.is(call + "-1)", x.cheapest(0, a, b, c, limit, -1), cost);
        s.is(call + "-2)", x.cheapest(0, a, b, c, limit, -2), minutes);
        for (int mile = 0; mile < 9; mile++) {
            s.is(call + mile + ")", x.cheapest(0, a, b, c, limit, mile), row.charAt(mile) - '0');
        }
    }

    static void noWalk(Sentences s, LeftShoes x, int a, int b, int c, int limit) {
        String call = "(0, " + a + ", " + b + ", " + c + ", " + limit;
        for (int what = -2; what < 9; what++) {
            s.is("cheapest" + call + ", " + what + ")", x.cheapest(0, a, b, c, limit, what), -4);
        }
        s.is("go" + call + ")", x.go(0, a, b, c, limit), -4);
    }

    private static void goings(Sentences s) {
        s.terms("GOING, a MILE: 0 SHOD: a SHOE of each FOOT;");
        LeftShoes x = wearer(PLAIN, PLAIN, PLAIN);
        s.is("a left, a right", x.minutes(0, 0, 0, 1), 20);
        s.is("two rights", x.minutes(0, 0, 1, 2), -1);
        s.is("one", x.minutes(0, 0, 0, -1), -1);
        s.is("none", x.minutes(0, 0, -1, -1), -1);

        s.terms("1 ALIKE: two SHOES of the FOOT that is not taxed;");
        s.is("two rights", x.minutes(1, 0, 1, 2), 26);
        s.is("a left, a right", x.minutes(1, 0, 0, 1), -1);
        s.is("one", x.minutes(1, 0, 1, -1), -1);
        x.shoe(0, 0, PLAIN, 0);
        s.is("two taxed ones", x.minutes(1, 0, 0, 3), -1);
        x.tax(5, 1);
        s.is("two that are not taxed now", x.minutes(1, 0, 0, 3), 26);
        s.is("two that are", x.minutes(1, 0, 1, 2), -1);
        x.tax(5, 0);

        s.terms("2 HOP: on one SHOE of that FOOT;");
        s.is("a right one", x.minutes(2, 0, 1, -1), 40);
        s.is("the taxed one", x.minutes(2, 0, 0, -1), -1);
        s.is("two", x.minutes(2, 0, 1, 2), -1);
        s.is("none", x.minutes(2, 0, -1, -1), -1);
        x.tax(5, 1);
        s.is("a left one", x.minutes(2, 0, 0, -1), 40);
        x.tax(5, 0);

        s.terms("3 BARE.");
        s.is("bare", x.minutes(3, 0, -1, -1), 30);
        s.is("with one", x.minutes(3, 0, 1, -1), -1);
        s.is("with another", x.minutes(3, 0, -1, 1), -1);
        s.is("4 is no GOING", x.minutes(4, 0, -1, -1), -1);
        s.is("-1 is no GOING", x.minutes(-1, 0, -1, -1), -1);
    }

    private static void minutesByMud(Sentences s) {
        s.terms("It takes MINUTES: 20 and MUD; 26 and MUD; 40 and 2 MUD; 30 and 3 MUD.");
        LeftShoes x = wearer(PLAIN, PLAIN, SILK);
        for (int mud = 0; mud <= 9; mud++) {
            x.road(8, 0, mud);
            s.is("SHOD", x.minutes(0, 8, 0, 1), 20 + mud);
            s.is("SHOD, silk", x.minutes(0, 8, 0, 2), 20 + mud);
            s.is("ALIKE", x.minutes(1, 8, 1, 2), 26 + mud);
            s.is("HOP", x.minutes(2, 8, 1, -1), 40 + 2 * mud);
            s.is("BARE", x.minutes(3, 8, -1, -1), 30 + 3 * mud);
            s.is("no MUD there", x.minutes(3, 0, -1, -1), 30);
        }
    }

    private static void stoutAndClogs(Sentences s) {
        s.terms("STOUT ones take 1 MINUTE less for each,");
        LeftShoes x = wearer(STOUT, STOUT, STOUT);
        x.shoe(0, 1, PLAIN, 0);
        for (int mud = 0; mud <= 9; mud++) {
            x.road(0, 0, mud);
            s.is("SHOD, two", x.minutes(0, 0, 0, 1), 18 + mud);
            s.is("SHOD, one", x.minutes(0, 0, 0, 3), 19 + mud);
            s.is("ALIKE, two", x.minutes(1, 0, 1, 2), 24 + mud);
            s.is("ALIKE, the first", x.minutes(1, 0, 1, 3), 25 + mud);
            s.is("ALIKE, the second", x.minutes(1, 0, 3, 1), 25 + mud);
            s.is("HOP", x.minutes(2, 0, 1, -1), 39 + 2 * mud);
        }

        s.terms("CLOGS 1 more, but in MUD 5 and more 2 less (instead).");
        LeftShoes y = wearer(CLOG, CLOG, CLOG);
        y.shoe(0, 1, STOUT, 0);
        int[] each = {1, 1, 1, 1, 1, -2, -2, -2, -2, -2};
        for (int mud = 0; mud <= 9; mud++) {
            y.road(0, 0, mud);
            s.is("SHOD, two, MUD " + mud, y.minutes(0, 0, 0, 1), 20 + mud + 2 * each[mud]);
            s.is("SHOD, and a stout one, MUD " + mud, y.minutes(0, 0, 0, 3), 19 + mud + each[mud]);
            s.is("ALIKE, two, MUD " + mud, y.minutes(1, 0, 1, 2), 26 + mud + 2 * each[mud]);
            s.is("HOP, MUD " + mud, y.minutes(2, 0, 1, -1), 40 + 2 * mud + each[mud]);
        }
    }

    private static void minutes(Sentences s) {
        s.promise(14, "MINUTES of a GOING on a MILE with two SHOES (SHOD, ALIKE), one (HOP; the second -1), none (BARE; both -1).");
        LeftShoes x = wearer(PLAIN, PLAIN, PLAIN);
        int[][] shoes = {{0, 1}, {1, 2}, {1, -1}, {-1, -1}};
        int[] want = {20, 26, 40, 30};
        for (int going = 0; going < 4; going++) {
            for (int with = 0; with < 4; with++) {
                for (int mile = 0; mile < 9; mile++) {
                    s.is(going + " on " + mile + " with those of " + with, x.minutes(going, mile, shoes[with][0], shoes[with][1]),
                            going == with ? want[going] : -1);
                }
            }
        }
        x.person(0, 1);
        x.give(1, 1);
        s.is("whose they are is not asked", x.minutes(0, 0, 0, 1), 20);
    }

    private static void minutesRefused(Sentences s) {
        s.promise(14, "BAD: also SHOES that are not so by FOOT (SHOD: the first is of the taxed one; ALIKE, HOP: not of it),");
        // Of the rich county: lefts 0, 2, 5, 6; rights 1, 3, 4; the left one is taxed.
        s.refused("SHOD, turned", -1, x -> x.minutes(0, 0, 1, 0));
        s.refused("SHOD, lefts", -1, x -> x.minutes(0, 0, 0, 2));
        s.refused("SHOD, rights", -1, x -> x.minutes(0, 0, 1, 3));
        s.refused("ALIKE, lefts", -1, x -> x.minutes(1, 0, 0, 2));
        s.refused("ALIKE, the first a left one", -1, x -> x.minutes(1, 0, 0, 1));
        s.refused("ALIKE, the second a left one", -1, x -> x.minutes(1, 0, 1, 0));
        s.refused("HOP, a left one", -1, x -> x.minutes(2, 0, 0, -1));
        s.refused("mile too small", -1, x -> x.minutes(3, -1, -1, -1));
        s.refused("mile too large", -1, x -> x.minutes(3, 9, -1, -1));
        s.refused("going too small", -1, x -> x.minutes(-1, 0, -1, -1));
        s.refused("going too large", -1, x -> x.minutes(4, 0, -1, -1));
        s.refused("extremes", -1, x -> x.minutes(MAX, MIN, MAX, MIN));

        s.promise(14, "that are not there,");
        s.refused("SHOD, the first 7", -1, x -> x.minutes(0, 0, 7, 1));
        s.refused("SHOD, the second 7", -1, x -> x.minutes(0, 0, 0, 7));
        s.refused("SHOD, the first none", -1, x -> x.minutes(0, 0, -1, 1));
        s.refused("SHOD, the second none", -1, x -> x.minutes(0, 0, 0, -1));
        s.refused("ALIKE, the first 7", -1, x -> x.minutes(1, 0, 7, 1));
        s.refused("ALIKE, the second 7", -1, x -> x.minutes(1, 0, 1, 7));
        s.refused("ALIKE, the first none", -1, x -> x.minutes(1, 0, -1, 1));
        s.refused("ALIKE, the second none", -1, x -> x.minutes(1, 0, 1, -1));
        s.refused("HOP, 7", -1, x -> x.minutes(2, 0, 7, -1));
        s.refused("HOP, none", -1, x -> x.minutes(2, 0, -1, -1));
        s.refused("HOP, a second one", -1, x -> x.minutes(2, 0, 1, 3));
        s.refused("HOP, -2 for none", -1, x -> x.minutes(2, 0, 1, -2));
        s.refused("BARE, -2 for none, first", -1, x -> x.minutes(3, 0, -2, -1));
        s.refused("BARE, -2 for none, second", -1, x -> x.minutes(3, 0, -1, -2));
        s.refused("BARE, a first one", -1, x -> x.minutes(3, 0, 0, -1));
        s.refused("BARE, a second one", -1, x -> x.minutes(3, 0, -1, 0));
        s.refusedByFull("SHOD, 16", -1, x -> x.minutes(0, 0, 16, 1));
        s.refusedByFull("HOP, 17", -1, x -> x.minutes(2, 0, 17, -1));

        s.promise(14, "alike.");
        s.refused("ALIKE on one", -1, x -> x.minutes(1, 0, 1, 1));
        s.refused("SHOD in one", -1, x -> x.minutes(0, 0, 0, 0));
        s.refused("HOP, the same again", -1, x -> x.minutes(2, 0, 1, 1));
    }

    /** Goes CHEAPEST in so many MINUTES; then the three have so many SOLES. */
    private static void worn(Sentences s, LeftShoes x, int a, int b, int c, int limit, int... soles) {
        String call = "go(0, " + a + ", " + b + ", " + c + ", " + limit + ")";
        s.is(call, x.go(0, a, b, c, limit), 0);
        for (int k = 0; k < 3; k++) {
            s.is("SOLES of " + k + " behind " + call, x.told(k, 2), soles[k]);
        }
    }

    private static void wear(Sentences s) {
        s.terms("SOLES: 1 MILE of each SHOE that is worn, of SILK 2;");
        worn(s, wearer(PLAIN, PLAIN, PLAIN), 0, 1, 2, 180, 90, 90, 99);
        worn(s, wearer(STOUT, CLOG, PLAIN), 0, 1, 2, 180, 90, 90, 99);
        worn(s, wearer(SILK, PLAIN, SILK), 0, 1, 2, 180, 81, 90, 99);
        worn(s, wearer(PLAIN, SILK, PLAIN), 0, 1, 2, 180, 90, 81, 99);
        worn(s, wearer(PLAIN, PLAIN, SILK), -1, 1, 2, 234, 99, 90, 81);
        worn(s, wearer(PLAIN, SILK, CLOG), -1, 1, 2, 243, 99, 81, 90);

        s.terms("by HOP twice that.");
        worn(s, wearer(PLAIN, PLAIN, PLAIN), -1, 1, -1, 320, 99, 89, 99);
        worn(s, wearer(PLAIN, SILK, PLAIN), -1, 1, -1, 320, 99, 79, 99);
        worn(s, wearer(PLAIN, CLOG, PLAIN), -1, 1, -1, 325, 99, 89, 99);
        worn(s, wearer(PLAIN, STOUT, PLAIN), -1, 1, -1, 315, 99, 89, 99);
    }

    private static void cost(Sentences s) {
        s.terms("COST, in sixteenths of a penny: of the taxed SHOE, STAMPED: 16 RATES;");
        LeftShoes x = wearer(PLAIN, PLAIN, PLAIN);
        x.stamp(0, true);
        x.stamp(1, true);
        x.stamp(2, true);
        x.tax(4, 99);
        x.road(0, 1, 16);
        int[] rates = {0, 1, 9};
        for (int rate : rates) {
            x.tax(PLAIN, rate);
            cheapest(s, x, 0, 1, -1, 180, 9 * 16 * rate, 180, "000000000");
            s.is("no taxed one", x.cheapest(0, -1, 1, 2, 234, -1), 0);
        }

        s.terms("not: FINE times WATCHED.");
        LeftShoes y = wearer(PLAIN, PLAIN, PLAIN);
        y.tax(PLAIN, 9);
        y.tax(4, 99);
        int all = 0;
        for (int mile = 0; mile < 9; mile++) {
            y.road(mile, 1, 16 - mile);
            all += 99 * (16 - mile);
            cheapest(s, y, 0, 1, -1, 180, all, 180, "000000000");
        }
        for (int mile = 0; mile < 9; mile++) {
            y.road(mile, 1, 16);
        }
        cheapest(s, y, 0, 1, -1, 180, 99 * 16 * 9, 180, "000000000");
        y.tax(4, 0);
        cheapest(s, y, 0, 1, -1, 180, 0, 180, "000000000");
    }

    private static void nineMiles(Sentences s) {
        s.terms("WALK: one of PEOPLE goes all 9 MILES with three SHOES of his");
        LeftShoes x = wearer(PLAIN, PLAIN, PLAIN);
        cheapest(s, x, 0, 1, 2, 999, 0, 180, "000000000");
        noWalk(s, x, 0, 1, 2, 179);
        x.road(8, 0, 9);
        cheapest(s, x, 0, 1, 2, 189, 0, 189, "000000000");
        noWalk(s, x, 0, 1, 2, 188);
        x.person(9, 0);
        for (int shoe = 0; shoe < 3; shoe++) {
            x.give(shoe, 1);
            s.is("another one's " + shoe, x.cheapest(0, 0, 1, 2, 999, -1), -1);
            s.is("another one's " + shoe + ", go", x.go(0, 0, 1, 2, 999), -1);
            x.give(shoe, 0);
        }
        s.is("all his", x.cheapest(0, 0, 1, 2, 999, -1), 0);
        s.is("nobody", x.cheapest(2, 0, 1, 2, 999, -1), -1);
    }

    private static void threeShoes(Sentences s) {
        s.terms("(A of the taxed FOOT, B, C of the other one;");
        LeftShoes x = wearer(PLAIN, PLAIN, PLAIN);
        x.shoe(0, 0, PLAIN, 99);
        x.shoe(0, 0, PLAIN, 99);
        x.shoe(0, 1, PLAIN, 99);
        int[][] lefts = {{0, 1, 2}, {3, 1, 2}, {0, 5, 1}};
        int[][] others = {{1, 5, 2}, {0, 3, 2}, {0, 1, 3}, {0, 3, 4}, {1, 0, 3}, {1, -1, -1}, {-1, 0, -1}, {-1, -1, 0}};
        for (int[] w : lefts) {
            s.is("lefts taxed", x.cheapest(0, w[0], w[1], w[2], 999, -1), 0);
        }
        for (int[] w : others) {
            s.is("not so by FOOT", x.cheapest(0, w[0], w[1], w[2], 999, -1), -1);
            s.is("not so by FOOT, go", x.go(0, w[0], w[1], w[2], 999), -1);
        }
        x.tax(5, 1);
        s.is("rights taxed", x.cheapest(0, 1, 0, 3, 999, -1), 0);
        s.is("rights taxed, none", x.cheapest(0, 1, -1, -1, 999, -1), -4);
        for (int[] w : lefts) {
            s.is("lefts are not taxed", x.cheapest(0, w[0], w[1], w[2], 999, -1), -1);
        }
    }

    private static void none(Sentences s) {
        s.terms("each may be none: -1;");
        LeftShoes x = wearer(PLAIN, PLAIN, PLAIN);
        cheapest(s, x, 0, 1, 2, 999, 0, 180, "000000000");
        cheapest(s, x, -1, 1, 2, 999, 0, 234, "111111111");
        cheapest(s, x, 0, 1, -1, 999, 0, 180, "000000000");
        cheapest(s, x, -1, 1, -1, 999, 0, 320, "223223233");
        noWalk(s, x, 0, -1, 2, 999);
        noWalk(s, x, 0, -1, -1, 999);
        noWalk(s, x, -1, -1, 2, 999);
        noWalk(s, x, -1, -1, -1, 999);
        s.is("A -2", x.cheapest(0, -2, 1, 2, 999, -1), -1);
        s.is("B -2", x.cheapest(0, 0, -2, 2, 999, -1), -1);
        s.is("C -2", x.cheapest(0, 0, 1, -2, 999, -1), -1);
        s.is("A 3", x.cheapest(0, 3, 1, 2, 999, -1), -1);
        s.is("B 3", x.cheapest(0, 0, 3, 2, 999, -1), -1);
        s.is("C 3", x.cheapest(0, 0, 1, 3, 999, -1), -1);
    }

    private static void unlike(Sentences s) {
        s.terms("unlike),");
        LeftShoes x = wearer(PLAIN, PLAIN, PLAIN);
        s.is("B and C", x.cheapest(0, 0, 1, 1, 999, -1), -1);
        s.is("B and C, go", x.go(0, 0, 1, 1, 999), -1);
        s.is("A and B", x.cheapest(0, 0, 0, 1, 999, -1), -1);
        s.is("A and C", x.cheapest(0, 0, 1, 0, 999, -1), -1);
        s.is("B and C without A", x.cheapest(0, -1, 2, 2, 999, -1), -1);
        s.is("none and none are not", x.cheapest(0, 0, -1, -1, 999, -1), -4);
        s.is("but for the number, alike ones are not", x.cheapest(0, 0, 2, 1, 999, -1), 0);
    }

    private static void eachMileOne(Sentences s) {
        s.terms("each MILE one GOING:");
        LeftShoes x = wearer(PLAIN, PLAIN, PLAIN, 2, 99, 2);
        cheapest(s, x, 0, 1, 2, 999, 0, 2 * 20 + 2 * 26 + 40 + 4 * 30, "001123333");
        noWalk(s, x, 0, 1, 2, 251);
    }

    private static void hops(Sentences s) {
        s.terms("no three HOPS one behind the other,");
        LeftShoes x = wearer(PLAIN, PLAIN, PLAIN, 0, 99, 0);
        cheapest(s, x, -1, 1, -1, 999, 0, 320, "223223233");
        // BARE saves 10 minutes where there is no MUD, 1 where there are 9: 333322222 would be the best.
        for (int mile = 4; mile < 9; mile++) {
            x.road(mile, 0, 9);
        }
        cheapest(s, x, -1, 1, -1, 999, 0, 3 * 30 + 40 + 57 + 4 * 58, "233322322");
        noWalk(s, x, -1, 1, -1, 418);
    }

    private static void bare(Sentences s) {
        s.terms("no more than 4 BARE in all;");
        LeftShoes x = wearer(PLAIN, PLAIN, PLAIN, 5, 5, 0);
        cheapest(s, x, 0, 1, -1, 999, 0, 5 * 20 + 4 * 30, "000003333");
        noWalk(s, wearer(PLAIN, PLAIN, PLAIN, 4, 4, 0), 0, 1, -1, 999);
        LeftShoes y = wearer(PLAIN, PLAIN, PLAIN, 0, 99, 0);
        cheapest(s, y, -1, 1, -1, 320, 0, 5 * 40 + 4 * 30, "223223233");
        noWalk(s, y, -1, 1, -1, 319);
    }

    private static void solesMustDo(Sentences s) {
        s.terms("SOLES must do (SHOD wears A and B, ALIKE B and C, HOP B);");
        does(s, wearer(PLAIN, PLAIN, PLAIN, 9, 9, 0), 0, 1, 2, 180, "000000000");
        does(s, wearer(PLAIN, PLAIN, PLAIN, 8, 9, 0), 0, 1, 2, 190, "000000003");
        does(s, wearer(PLAIN, PLAIN, PLAIN, 9, 8, 0), 0, 1, 2, 190, "000000003");
        does(s, wearer(SILK, PLAIN, PLAIN, 18, 9, 0), 0, 1, 2, 180, "000000000");
        does(s, wearer(SILK, PLAIN, PLAIN, 17, 9, 0), 0, 1, 2, 190, "000000003");
        does(s, wearer(PLAIN, SILK, PLAIN, 9, 17, 0), 0, 1, 2, 190, "000000003");
        does(s, wearer(PLAIN, PLAIN, PLAIN, 0, 9, 9), 0, 1, 2, 234, "111111111");
        does(s, wearer(PLAIN, PLAIN, PLAIN, 0, 8, 9), 0, 1, 2, 238, "111111113");
        does(s, wearer(PLAIN, PLAIN, PLAIN, 0, 9, 8), 0, 1, 2, 238, "111111113");
        does(s, wearer(PLAIN, SILK, SILK, 0, 18, 18), 0, 1, 2, 234, "111111111");
        does(s, wearer(PLAIN, SILK, SILK, 0, 18, 17), 0, 1, 2, 238, "111111113");
        does(s, wearer(PLAIN, SILK, SILK, 0, 17, 18), 0, 1, 2, 238, "111111113");
        does(s, wearer(PLAIN, PLAIN, PLAIN, 0, 10, 0), 0, 1, 2, 320, "223223233");
        noWalk(s, wearer(PLAIN, PLAIN, PLAIN, 0, 9, 0), 0, 1, 2, 999);
        does(s, wearer(PLAIN, SILK, PLAIN, 0, 20, 0), 0, 1, 2, 320, "223223233");
        noWalk(s, wearer(PLAIN, SILK, PLAIN, 0, 19, 0), 0, 1, 2, 999);
        does(s, wearer(PLAIN, PLAIN, PLAIN, 2, 6, 2), 0, 1, 2, 252, "001123333");
        noWalk(s, wearer(PLAIN, PLAIN, PLAIN, 2, 5, 2), 0, 1, 2, 999);
        noWalk(s, wearer(PLAIN, PLAIN, PLAIN, 0, 0, 99), 0, 1, 2, 999);
        noWalk(s, wearer(PLAIN, PLAIN, PLAIN, 99, 0, 99), 0, 1, 2, 999);
    }

    /** So many MINUTES are the fewest for nothing. */
    private static void does(Sentences s, LeftShoes x, int a, int b, int c, int minutes, String row) {
        cheapest(s, x, a, b, c, minutes, 0, minutes, row);
        noWalk(s, x, a, b, c, minutes - 1);
    }

    /** One with one foot alone and a SHOE for it. */
    private static LeftShoes hopper(int foot, int sort, int soles) {
        LeftShoes x = new LeftShoes();
        x.person(9999, 1 + foot);
        x.shoe(0, foot, sort, soles);
        return x;
    }

    private static void oneFoot(Sentences s) {
        s.terms("who has one foot alone goes HOP each MILE on B");
        for (int foot = 0; foot < 2; foot++) {
            does(s, hopper(foot, PLAIN, 18), -1, 0, -1, 360, "222222222");
            noWalk(s, hopper(foot, PLAIN, 17), -1, 0, -1, 999);
            does(s, hopper(foot, SILK, 36), -1, 0, -1, 360, "222222222");
            noWalk(s, hopper(foot, SILK, 35), -1, 0, -1, 999);
            noWalk(s, hopper(foot, PLAIN, 18), -1, -1, -1, 999);
        }

        s.terms("(for that foot, taxed or not: then it costs as the taxed one does;");
        for (int foot = 0; foot < 2; foot++) {
            LeftShoes x = hopper(foot, STOUT, 99);
            x.tax(5, foot);
            x.tax(STOUT, 9);
            x.tax(4, 99);
            x.road(4, 1, 3);
            cheapest(s, x, -1, 0, -1, 999, 3 * 99, 9 * 39, "222222222");
            x.stamp(0, true);
            cheapest(s, x, -1, 0, -1, 999, 9 * 9 * 16, 9 * 39, "222222222");
            x.tax(5, 1 - foot);
            cheapest(s, x, -1, 0, -1, 999, 0, 9 * 39, "222222222");
            x.stamp(0, false);
            cheapest(s, x, -1, 0, -1, 999, 0, 9 * 39, "222222222");
            x.shoe(0, 1 - foot, PLAIN, 99);
            s.is("for the other foot", x.cheapest(0, -1, 1, -1, 999, -1), -1);
            x.tax(5, foot);
            s.is("for the other foot, not taxed", x.cheapest(0, -1, 1, -1, 999, -1), -1);
        }

        s.terms("A, C are none;");
        for (int foot = 0; foot < 2; foot++) {
            LeftShoes x = hopper(foot, PLAIN, 99);
            x.shoe(0, foot, PLAIN, 99);
            x.shoe(0, 1 - foot, PLAIN, 99);
            for (int taxed = 0; taxed < 2; taxed++) {
                x.tax(5, taxed);
                for (int shoe = 1; shoe < 3; shoe++) {
                    s.is("A " + shoe, x.cheapest(0, shoe, 0, -1, 999, -1), -1);
                    s.is("C " + shoe, x.cheapest(0, -1, 0, shoe, 999, -1), -1);
                    s.is("A alone", x.cheapest(0, shoe, -1, -1, 999, -1), -1);
                    s.is("A, go", x.go(0, shoe, 0, -1, 999), -1);
                }
                s.is("A -2", x.cheapest(0, -2, 0, -1, 999, -1), -1);
                s.is("C -2", x.cheapest(0, -1, 0, -2, 999, -1), -1);
                s.is("both are none", x.cheapest(0, -1, 0, -1, 999, -1), 0);
            }
        }

        s.terms("three one behind the other and more may be).");
        LeftShoes x = hopper(0, PLAIN, 99);
        cheapest(s, x, -1, 0, -1, 999, 0, 360, "222222222");
        s.is("go", x.go(0, -1, 0, -1, 999), 0);
        s.is("SOLES", x.told(0, 2), 81);
    }
}
