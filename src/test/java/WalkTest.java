/** Promises 14 to 16: minutes, cheapest, go. */
public final class WalkTest {
    private static final int MIN = Integer.MIN_VALUE, MAX = Integer.MAX_VALUE;
    private static final int PLAIN = 0, STOUT = 1, CLOG = 2, SILK = 3;

    public static void main(String[] args) {
        Due due = new Due();
        minutes(due);
        minutesBad(due);
        minutesOfRights(due);
        cheapestInTime(due);
        cheapestHopsAndBare(due);
        cheapestFines(due);
        cheapestSoles(due);
        cheapestFewHops(due);
        cheapestOneFooted(due);
        cheapestBad(due);
        go(due);
        goRefused(due);
        goOneFooted(due);
        due.end();
    }

    private static void row(Due due, LeftShoes x, int[] who, int limit, int cost, int minutes, String row) {
        String call = "cheapest(" + who[0] + ", " + who[1] + ", " + who[2] + ", " + who[3] + ", " + limit + ", ";
        due.is(call + "-1)", x.cheapest(who[0], who[1], who[2], who[3], limit, -1), cost);
        due.is(call + "-2)", x.cheapest(who[0], who[1], who[2], who[3], limit, -2), minutes);
        for (int mile = 0; mile < 9; mile++) {
            due.is(call + mile + ")", x.cheapest(who[0], who[1], who[2], who[3], limit, mile), row.charAt(mile) - '0');
        }
    }

    private static void none(Due due, LeftShoes x, int[] who, int limit) {
        for (int what = -2; what < 9; what++) {
            due.is("cheapest what " + what, x.cheapest(who[0], who[1], who[2], who[3], limit, what), -4);
        }
        due.is("go", x.go(who[0], who[1], who[2], who[3], limit), -4);
    }

    /** One with both FEET, 9999 pence: lefts 0 to 3 of SORTS 0 to 3, rights 4 to 7 likewise, rights 8 plain, all of 99. */
    private static LeftShoes stocked() {
        LeftShoes x = new LeftShoes();
        x.person(9999, 0);
        for (int k = 0; k < 8; k++) {
            x.shoe(0, k / 4, k % 4, 99);
        }
        x.shoe(0, 1, PLAIN, 99);
        return x;
    }

    private static void minutes(Due due) {
        due.of("promise 14: minutes");
        LeftShoes x = stocked();
        int[] muds = {0, 1, 4, 5, 9};
        int[] clog = {1, 1, 1, -2, -2};
        for (int k = 0; k < 5; k++) {
            int mud = muds[k];
            x.road(k, 0, mud);
            due.is("shod", x.minutes(0, k, 0, 4), 20 + mud);
            due.is("shod in stout ones", x.minutes(0, k, 1, 5), 18 + mud);
            due.is("shod in a clog, a plain one", x.minutes(0, k, 2, 4), 20 + mud + clog[k]);
            due.is("shod in clogs", x.minutes(0, k, 2, 6), 20 + mud + 2 * clog[k]);
            due.is("shod in silk, a stout one", x.minutes(0, k, 3, 5), 19 + mud);
            due.is("alike", x.minutes(1, k, 4, 8), 26 + mud);
            due.is("alike, the other way", x.minutes(1, k, 8, 4), 26 + mud);
            due.is("alike in a stout one, a clog", x.minutes(1, k, 5, 6), 25 + mud + clog[k]);
            due.is("hop", x.minutes(2, k, 4, -1), 40 + 2 * mud);
            due.is("hop in a stout one", x.minutes(2, k, 5, -1), 39 + 2 * mud);
            due.is("hop in a clog", x.minutes(2, k, 6, -1), 40 + 2 * mud + clog[k]);
            due.is("hop in silk", x.minutes(2, k, 7, -1), 40 + 2 * mud);
            due.is("bare", x.minutes(3, k, -1, -1), 30 + 3 * mud);
        }
    }

    private static void minutesBad(Due due) {
        due.of("promise 14: minutes, wrong inputs");
        LeftShoes x = stocked();
        int[][] bad = {
            {-1, 0, 0, 4}, {4, 0, -1, -1}, {0, -1, 0, 4}, {0, 9, 0, 4}, {3, 9, -1, -1},
            {0, 0, 4, 0}, {0, 0, 0, 1}, {0, 0, 4, 5}, {0, 0, 0, -1}, {0, 0, -1, 4}, {0, 0, 0, 9}, {0, 0, 9, 4}, {0, 0, -1, -1},
            {1, 0, 0, 1}, {1, 0, 0, 4}, {1, 0, 4, 0}, {1, 0, 4, 4}, {1, 0, 4, -1}, {1, 0, -1, 4}, {1, 0, 4, 9}, {1, 0, -1, -1},
            {2, 0, 0, -1}, {2, 0, 4, 5}, {2, 0, 4, 4}, {2, 0, 4, -2}, {2, 0, 9, -1}, {2, 0, -1, -1}, {2, 0, -1, 4},
            {3, 0, 4, -1}, {3, 0, -1, 4}, {3, 0, -2, -1}, {3, 0, -1, -2}, {MIN, MAX, MIN, MAX}, {0, MIN, 0, 4}};
        for (int[] b : bad) {
            due.is("minutes(" + b[0] + ", " + b[1] + ", " + b[2] + ", " + b[3] + ")", x.minutes(b[0], b[1], b[2], b[3]), -1);
        }
    }

    private static void minutesOfRights(Due due) {
        due.of("promise 14: minutes, rights taxed");
        LeftShoes x = stocked();
        x.tax(5, 1);
        due.is("shod, the right one first", x.minutes(0, 0, 4, 1), 19);
        due.is("shod, the left one first", x.minutes(0, 0, 1, 4), -1);
        due.is("two lefts", x.minutes(1, 0, 0, 1), 25);
        due.is("two rights", x.minutes(1, 0, 4, 5), -1);
        due.is("hop on a left one", x.minutes(2, 0, 1, -1), 39);
        due.is("hop on a right one", x.minutes(2, 0, 4, -1), -1);
        x.person(0, 1);
        x.give(0, 1);
        due.is("whose they are does not matter", x.minutes(1, 0, 0, 1), 25);
    }

    private static void cheapestInTime(Due due) {
        due.of("promise 15: cheapest in so many minutes");
        LeftShoes x = stocked();
        int[] all = {0, 0, 4, 8};
        row(due, x, all, 999, 0, 180, "000000000");
        row(due, x, all, 180, 0, 180, "000000000");
        none(due, x, all, 179);
        x.tax(0, 2);
        row(due, x, all, 999, 0, 180, "000000000");
        x.stamp(0, true);
        row(due, x, all, 999, 0, 234, "111111111");
        row(due, x, all, 234, 0, 234, "111111111");
        row(due, x, all, 233, 32, 228, "011111111");
        row(due, x, all, 228, 32, 228, "011111111");
        row(due, x, all, 227, 64, 222, "001111111");
        row(due, x, all, 180, 288, 180, "000000000");
        none(due, x, all, 179);
        none(due, x, all, 1);
        x.road(3, 0, 9);
        row(due, x, all, 999, 0, 243, "111111111");
        x.tax(5, 1);
        row(due, x, new int[] {0, 4, 0, 1}, 999, 0, 189, "000000000");
    }

    private static void cheapestHopsAndBare(Due due) {
        due.of("promise 15: cheapest, hops and bare feet");
        LeftShoes x = stocked();
        x.tax(0, 9);
        x.stamp(0, true);
        int[] two = {0, 0, 4, -1};
        row(due, x, two, 999, 0, 320, "223223233");
        row(due, x, two, 320, 0, 320, "223223233");
        row(due, x, two, 319, 144, 300, "022322333");
        none(due, x, new int[] {0, -1, -1, -1}, 999);
        none(due, x, new int[] {0, 0, -1, 8}, 999);
        none(due, x, new int[] {0, -1, -1, 8}, 999);
        row(due, x, new int[] {0, -1, 4, -1}, 999, 0, 320, "223223233");
        row(due, x, new int[] {0, -1, 4, 8}, 999, 0, 234, "111111111");
        none(due, x, new int[] {0, -1, 4, 8}, 233);
        for (int mile = 0; mile < 9; mile++) {
            x.road(mile, 0, 9);
        }
        // Alike 35, hop 58, bare 57.
        row(due, x, new int[] {0, -1, 4, 8}, 999, 0, 315, "111111111");
        row(due, x, new int[] {0, -1, 4, -1}, 999, 0, 518, "223223233");
    }

    private static void cheapestFines(Due due) {
        due.of("promise 15: cheapest, fines where watchers are");
        LeftShoes x = stocked();
        x.tax(0, 9);
        x.tax(4, 10);
        int[] all = {0, 0, 4, 8};
        int[] watched = {0, 16, 3, 0, 8, 2, 0, 5, 1};
        for (int mile = 0; mile < 9; mile++) {
            x.road(mile, 1, watched[mile]);
        }
        row(due, x, all, 999, 0, 216, "011011011");
        row(due, x, all, 215, 10, 210, "011011010");
        row(due, x, all, 205, 30, 204, "011010010");
        row(due, x, all, 180, 350, 180, "000000000");
        x.stamp(0, true);
        row(due, x, all, 215, 576, 210, "000011111");
    }

    private static void cheapestSoles(Due due) {
        due.of("promise 15: cheapest, soles must do");
        LeftShoes x = new LeftShoes();
        x.person(0, 0);
        x.shoe(0, 0, PLAIN, 3);
        x.shoe(0, 1, PLAIN, 9);
        x.shoe(0, 1, SILK, 5);
        x.shoe(0, 0, SILK, 5);
        x.shoe(0, 1, STOUT, 0);
        // A does for 3, C for 2 of 2 each: so the rest bare.
        row(due, x, new int[] {0, 0, 1, 2}, 999, 0, 3 * 20 + 2 * 26 + 4 * 30, "000113333");
        row(due, x, new int[] {0, 0, 1, -1}, 999, 0, 3 * 20 + 2 * 40 + 4 * 30, "000223333");
        row(due, x, new int[] {0, 3, 1, -1}, 999, 0, 2 * 20 + 3 * 40 + 4 * 30, "002232333");
        none(due, x, new int[] {0, 0, 4, 1}, 999);
        // B of silk hops for 4 soles: 5 do for one hop, or for two miles of another kind.
        none(due, x, new int[] {0, -1, 2, -1}, 999);
        none(due, x, new int[] {0, 0, 2, 1}, 999);
        x.shoe(0, 1, SILK, 12);
        row(due, x, new int[] {0, 0, 5, 1}, 999, 0, 3 * 20 + 3 * 26 + 3 * 30, "000111333");
        none(due, x, new int[] {0, 0, 5, -1}, 999);
    }

    private static void cheapestFewHops(Due due) {
        due.of("promise 15: cheapest, no three hops one behind the other");
        // Each time a like way to a mile, of as many hops, but two of them last, is the cheaper one so far.
        few(due, 4, 2, new int[] {0, 1, 1, 0, 1, 1, 1, 0, 0}, new int[] {2, 3, 1, 3, 1, 2, 3, 1, 2}, 314,
                2, 309, "322302233");
        few(due, 1, 1, new int[] {2, 1, 1, 0, 0, 2, 2, 2, 0}, new int[] {0, 0, 1, 0, 1, 0, 0, 1, 1}, 348,
                0, 319, "223330223");
    }

    private static void few(Due due, int soles, int fine, int[] muds, int[] watched, int limit, int cost, int minutes,
            String row) {
        LeftShoes x = new LeftShoes();
        x.person(0, 0);
        x.shoe(0, 0, PLAIN, soles);
        x.shoe(0, 1, PLAIN, 99);
        x.tax(4, fine);
        for (int mile = 0; mile < 9; mile++) {
            x.road(mile, 0, muds[mile]);
            x.road(mile, 1, watched[mile]);
        }
        row(due, x, new int[] {0, 0, 1, -1}, limit, cost, minutes, row);
    }

    private static void cheapestOneFooted(Due due) {
        due.of("promise 15: cheapest, one foot alone");
        LeftShoes x = new LeftShoes();
        x.person(0, 1);
        x.person(0, 2);
        x.shoe(0, 0, PLAIN, 18);
        x.shoe(1, 1, SILK, 36);
        x.shoe(1, 1, STOUT, 17);
        x.shoe(0, 1, STOUT, 99);
        x.tax(0, 3);
        x.tax(4, 5);
        x.road(2, 1, 7);
        x.road(8, 1, 16);
        x.road(8, 0, 4);
        row(due, x, new int[] {0, -1, 0, -1}, 999, 5 * 23, 368, "222222222");
        none(due, x, new int[] {0, -1, 0, -1}, 367);
        row(due, x, new int[] {1, -1, 1, -1}, 368, 0, 368, "222222222");
        none(due, x, new int[] {1, -1, 2, -1}, 999);
        none(due, x, new int[] {0, -1, -1, -1}, 999);
        x.stamp(0, true);
        row(due, x, new int[] {0, -1, 0, -1}, 999, 9 * 48, 368, "222222222");
        x.tax(5, 1);
        row(due, x, new int[] {0, -1, 0, -1}, 999, 0, 368, "222222222");
        row(due, x, new int[] {1, -1, 1, -1}, 999, 5 * 23, 368, "222222222");
        due.is("A is not none", x.cheapest(0, 0, 0, -1, 999, -1), -1);
        due.is("A alone", x.cheapest(0, 0, -1, -1, 999, -1), -1);
        due.is("C is not none", x.cheapest(0, -1, 0, 3, 999, -1), -1);
        due.is("C alone", x.cheapest(1, -1, -1, 1, 999, -1), -1);
        due.is("B for the other foot", x.cheapest(0, -1, 3, -1, 999, -1), -1);
        due.is("B of another one", x.cheapest(0, -1, 1, -1, 999, -1), -1);
    }

    private static void cheapestBad(Due due) {
        due.of("promise 15: cheapest, wrong inputs");
        LeftShoes x = stocked();
        x.person(9, 0);
        x.shoe(1, 0, PLAIN, 9);
        x.shoe(1, 1, PLAIN, 9);
        int[][] bad = {
            {-1, 0, 4, 8, 200, -1}, {2, 0, 4, 8, 200, -1}, {0, 0, 4, 8, 0, -1}, {0, 0, 4, 8, 1000, -1}, {0, 0, 4, 8, -5, -1},
            {0, 0, 4, 8, 200, -3}, {0, 0, 4, 8, 200, 9}, {0, 0, 4, 4, 200, -1}, {0, 4, 0, 8, 200, -1}, {0, 0, 1, 8, 200, -1},
            {0, 0, 4, 1, 200, -1}, {0, 0, 1, -1, 200, -1}, {0, 4, -1, -1, 200, -1}, {0, 9, 4, 8, 200, -1},
            {0, 0, 10, 8, 200, -1}, {0, 0, 4, 10, 200, -1}, {0, 11, 4, 8, 200, -1}, {0, 0, 11, 8, 200, -1},
            {0, 0, 4, 11, 200, -1}, {0, -2, 4, 8, 200, -1}, {0, 0, -2, 8, 200, -1}, {0, 0, 4, -2, 200, -1},
            {0, 0, 4, 4, 1, -1}, {1, 0, 10, -1, 200, -1}, {MIN, MIN, MAX, MAX, MAX, MIN}};
        for (int[] b : bad) {
            due.is("cheapest of " + b[0] + " " + b[1] + " " + b[2] + " " + b[3] + " " + b[4] + " " + b[5],
                    x.cheapest(b[0], b[1], b[2], b[3], b[4], b[5]), -1);
            if (b[5] == -1) {
                due.is("go of " + b[0] + " " + b[1] + " " + b[2] + " " + b[3] + " " + b[4],
                        x.go(b[0], b[1], b[2], b[3], b[4]), -1);
            }
        }
        due.is("bad ahead of none", x.cheapest(0, 0, 4, 8, 1, 9), -1);
        due.is("all right", x.cheapest(0, 0, 4, 8, 200, -1), 0);
    }

    private static void go(Due due) {
        due.of("promise 16: go");
        LeftShoes x = new LeftShoes();
        x.person(30, 0);
        x.shoe(0, 0, SILK, 5);
        x.shoe(0, 1, PLAIN, 18);
        x.shoe(0, 1, STOUT, 9);
        x.tax(3, 7);
        x.stamp(0, true);
        // 9 times 25, the same shoes each mile but for the taxed one.
        due.is("in 225", x.go(0, 0, 1, 2, 225), 0);
        due.is("A", x.told(0, 2), 5);
        due.is("B", x.told(1, 2), 9);
        due.is("C", x.told(2, 2), 0);
        due.is("purse", x.of(0, 0), 30);
        // Now 4 BARE, and 5 HOPS would take 10 of B: so SHOD for 1 MILE, HOP for 4.
        due.is("cost", x.cheapest(0, 0, 1, 2, 999, -1), 112);
        due.is("pence", x.go(0, 0, 1, 2, 999), 7);
        due.is("A by 2", x.told(0, 2), 3);
        due.is("B by 1 and 8", x.told(1, 2), 0);
        due.is("C", x.told(2, 2), 0);
        due.is("purse", x.of(0, 0), 23);
        due.is("no more", x.go(0, 0, 1, 2, 999), -4);
        due.is("B stays", x.told(1, 2), 0);

        LeftShoes y = stocked();
        y.tax(4, 5);
        for (int mile = 0; mile < 9; mile++) {
            y.road(mile, 1, mile == 0 ? 3 : 16);
        }
        due.is("15 sixteenths are cut", y.go(0, 0, 4, 8, 228), 0);
        due.is("a mile shod", y.told(0, 2), 98);
        due.is("nine of B", y.told(4, 2), 90);
        due.is("eight of C", y.told(8, 2), 91);
        due.is("75 by 16 and 5 times 8", y.go(0, 0, 4, 8, 180), 40);
        due.is("purse", y.of(0, 0), 9959);
        due.is("nine of A", y.told(0, 2), 89);
    }

    private static void goRefused(Due due) {
        due.of("promise 16: go, a purse that has not so much");
        LeftShoes x = new LeftShoes();
        x.person(17, 0);
        x.shoe(0, 0, PLAIN, 99);
        x.shoe(0, 1, PLAIN, 99);
        x.stamp(0, true);
        x.tax(0, 2);
        due.is("18 pence", x.go(0, 0, 1, -1, 180), -2);
        due.is("purse", x.of(0, 0), 17);
        due.is("soles", x.told(0, 2), 99);
        due.is("in no time, none ahead of not", x.go(0, 0, 1, -1, 179), -4);
        due.is("bad ahead", x.go(0, 0, 1, -1, 0), -1);
        x.tax(0, 1);
        due.is("9 pence", x.go(0, 0, 1, -1, 180), 9);
        due.is("purse", x.of(0, 0), 8);
        due.is("soles", x.told(0, 2), 90);
        due.is("9 pence again", x.go(0, 0, 1, -1, 180), -2);
        x.tax(0, 0);
        due.is("nothing", x.go(0, 0, 1, -1, 180), 0);
        x.shoe(0, 1, SILK, 99);
        x.person(8, 0);
        x.shoe(1, 0, SILK, 99);
        x.shoe(1, 1, SILK, 99);
        x.tax(4, 1);
        for (int mile = 0; mile < 9; mile++) {
            x.road(mile, 1, 15);
        }
        due.is("135 sixteenths are 8 pence", x.go(1, 3, 4, -1, 180), 8);
        due.is("purse is empty", x.of(1, 0), 0);
        due.is("silk", x.told(3, 2), 81);
    }

    private static void goOneFooted(Due due) {
        due.of("promise 16: go, one foot alone");
        LeftShoes x = new LeftShoes();
        x.person(100, 1);
        x.shoe(0, 0, PLAIN, 40);
        x.shoe(0, 0, SILK, 40);
        x.stamp(0, true);
        x.tax(0, 9);
        due.is("81 pence", x.go(0, -1, 0, -1, 360), 81);
        due.is("18 soles", x.told(0, 2), 22);
        due.is("purse", x.of(0, 0), 19);
        due.is("not again", x.go(0, -1, 0, -1, 360), -2);
        due.is("on silk, no watcher", x.go(0, -1, 1, -1, 360), 0);
        due.is("36 soles", x.told(1, 2), 4);
        due.is("no more", x.go(0, -1, 1, -1, 360), -4);
        due.is("other soles stay", x.told(0, 2), 22);
    }
}
