/** Promises 17 to 23: paths, what comes over unseen, the market, brothers. */
public final class FordsMarketTest {
    private static final int MIN = Integer.MIN_VALUE, MAX = Integer.MAX_VALUE;

    public static void main(String[] args) {
        Due due = new Due();
        path(due);
        unseen(due);
        longWays(due);
        paths(due);
        buyer(due);
        market(due);
        marketBad(due);
        fair(due);
        brothers(due);
        due.end();
    }

    private static void path(Due due) {
        due.of("promise 17: path");
        LeftShoes x = new LeftShoes();
        due.is("there was none", x.path(0, 7, 15), 99);
        due.is("there was one, either way round", x.path(7, 0, 0), 115);
        due.is("watched by 0", x.path(0, 7, -1), 100);
        due.is("there is none any more", x.path(0, 7, -1), 99);
        due.is("paths", x.count(5), 0);
        due.is("3 to 4", x.path(3, 4, 6), 99);
        due.is("itself", x.path(3, 3, 0), -1);
        due.is("ford 8", x.path(3, 8, 0), -1);
        due.is("ford -1", x.path(-1, 3, 0), -1);
        due.is("watched 16", x.path(3, 4, 16), -1);
        due.is("watched -2", x.path(3, 4, -2), -1);
        due.is("extremes", x.path(MIN, MAX, MIN), -1);
        due.is("refused, it stays", x.path(4, 3, 6), 106);
        due.is("paths", x.count(5), 1);
    }

    private static void fraction(Due due, LeftShoes x, int from, int to, int above, int below, int paths) {
        String call = "(" + from + ", " + to + ")";
        due.is("unseen" + call + " above", x.unseen(from, to, 0), above);
        due.is("unseen" + call + " below", x.unseen(from, to, 1), below);
        due.is("unseen" + call + " above, back", x.unseen(to, from, 0), above);
        due.is("paths" + call, x.paths(from, to), paths);
        due.is("paths" + call + " back", x.paths(to, from), paths);
    }

    private static void unseen(Due due) {
        due.of("promise 18: unseen");
        LeftShoes x = new LeftShoes();
        x.path(0, 1, 8);
        x.path(1, 2, 4);
        fraction(due, x, 0, 1, 1, 2, 1);
        fraction(due, x, 0, 2, 3, 8, 2);
        x.path(0, 2, 11);
        fraction(due, x, 0, 2, 3, 8, 2);
        x.path(0, 2, 10);
        fraction(due, x, 0, 2, 3, 8, 1);
        x.path(0, 2, 9);
        fraction(due, x, 0, 2, 7, 16, 1);
        x.path(0, 1, 0);
        fraction(due, x, 0, 1, 1, 1, 1);
        fraction(due, x, 0, 2, 3, 4, 2);
        x.path(1, 2, -1);
        fraction(due, x, 0, 2, 7, 16, 1);
        x.path(0, 2, -1);
        due.is("no way", x.unseen(0, 2, 0), -4);
        due.is("no way, below", x.unseen(0, 2, 1), -4);
        due.is("no way, bad ahead", x.unseen(0, 2, 2), -1);
        due.is("itself", x.unseen(1, 1, 0), -1);
        due.is("part -1", x.unseen(0, 1, -1), -1);
        due.is("ford 8", x.unseen(0, 8, 0), -1);
        due.is("ford -1", x.unseen(-1, 0, 0), -1);
        due.is("extremes", x.unseen(MAX, MIN, 0), -1);
    }

    private static void longWays(Due due) {
        due.of("promise 18: unseen by seven paths");
        LeftShoes x = new LeftShoes();
        for (int k = 0; k < 7; k++) {
            x.path(k, k + 1, 1);
        }
        fraction(due, x, 0, 7, 170859375, 268435456, 7);
        x.path(0, 7, 5);
        // 15 by 16 seven times is 0.6365, 11 by 16 is 0.6875, 10 by 16 is 0.625.
        fraction(due, x, 0, 7, 11, 16, 1);
        x.path(0, 7, 6);
        fraction(due, x, 0, 7, 170859375, 268435456, 7);
        for (int k = 0; k < 7; k++) {
            x.path(k, k + 1, 15);
        }
        x.path(0, 7, -1);
        fraction(due, x, 7, 0, 1, 268435456, 7);
        for (int k = 0; k < 7; k++) {
            x.path(k, k + 1, 0);
        }
        fraction(due, x, 7, 0, 1, 1, 7);
    }

    private static void paths(Due due) {
        due.of("promise 19: paths");
        LeftShoes x = new LeftShoes();
        due.is("no way", x.paths(0, 1), -4);
        x.path(0, 1, 0);
        x.path(1, 2, 0);
        x.path(2, 3, 0);
        x.path(0, 4, 0);
        x.path(4, 3, 0);
        fraction(due, x, 0, 3, 1, 1, 2);
        x.path(4, 3, 1);
        fraction(due, x, 0, 3, 1, 1, 3);
        fraction(due, x, 4, 3, 1, 1, 4);
        due.is("itself", x.paths(3, 3), -1);
        due.is("ford 8", x.paths(8, 0), -1);
        due.is("ford -1", x.paths(0, -1), -1);
        due.is("no way", x.paths(0, 7), -4);
    }

    private static void buyer(Due due) {
        due.of("promise 20: buyer");
        LeftShoes x = new LeftShoes();
        due.is("wants 0", x.buyer(0, 1), -1);
        due.is("wants 10", x.buyer(10, 1), -1);
        due.is("worth 0", x.buyer(1, 0), -1);
        due.is("worth 100", x.buyer(1, 100), -1);
        due.is("nobody has come", x.count(4), 0);
        for (int k = 0; k < 6; k++) {
            due.is("buyer " + k, x.buyer(k == 0 ? 9 : 1, k == 0 ? 99 : 1), k);
        }
        due.is("a seventh", x.buyer(1, 1), -3);
        due.is("a seventh, bad", x.buyer(1, 100), -1);
        due.is("buyers", x.count(4), 6);
        due.is("wanted at 1", x.market(1, 14, 0), 1);
    }

    private static void settles(Due due, LeftShoes x, int price, int supply, int rest, int rounds) {
        due.is("market(" + price + ", " + supply + ", 0)", x.market(price, supply, 0), rest);
        due.is("market(" + price + ", " + supply + ", 1)", x.market(price, supply, 1), rounds);
    }

    private static void market(Due due) {
        due.of("promise 21: market");
        LeftShoes x = new LeftShoes();
        settles(due, x, 50, 0, 50, 0);
        settles(due, x, 50, 1, -4, 50);
        settles(due, x, 1, 1, -4, 1);
        settles(due, x, 99, 60, -4, 99);
        x.buyer(3, 10);
        x.buyer(4, 20);
        settles(due, x, 10, 7, 10, 0);
        settles(due, x, 1, 7, 1, 0);
        settles(due, x, 11, 7, 10, 1);
        settles(due, x, 99, 7, 10, 89);
        settles(due, x, 1, 4, 11, 10);
        settles(due, x, 99, 4, 20, 79);
        settles(due, x, 1, 0, 21, 20);
        // 7 at 10, 4 at 11: from 10 to 11 and back again.
        settles(due, x, 10, 5, -4, 2);
        settles(due, x, 11, 5, -4, 2);
        settles(due, x, 8, 5, -4, 4);
        settles(due, x, 99, 5, -4, 90);
        settles(due, x, 1, 8, -4, 1);
        settles(due, x, 3, 8, -4, 3);
        x.buyer(9, 99);
        settles(due, x, 99, 8, -4, 1);
        settles(due, x, 97, 0, -4, 3);
        settles(due, x, 97, 9, 97, 0);
        settles(due, x, 1, 0, -4, 99);
    }

    private static void marketBad(Due due) {
        due.of("promise 21: market, wrong inputs");
        LeftShoes x = new LeftShoes();
        due.is("price 0", x.market(0, 0, 0), -1);
        due.is("price 100", x.market(100, 0, 0), -1);
        due.is("supply -1", x.market(1, -1, 0), -1);
        due.is("supply 61", x.market(1, 61, 0), -1);
        due.is("what -1", x.market(1, 1, -1), -1);
        due.is("what 2", x.market(1, 1, 2), -1);
        due.is("extremes", x.market(MIN, MAX, 0), -1);
    }

    private static void fair(Due due) {
        due.of("promise 22: fair");
        LeftShoes x = new LeftShoes();
        due.is("nobody", x.fair(), 0);
        for (int k = 0; k < 6; k++) {
            x.buyer(2, 50);
        }
        due.is("six", x.fair(), 6);
        due.is("nobody is left", x.count(4), 0);
        due.is("nothing is wanted", x.market(5, 0, 0), 5);
        due.is("nobody", x.fair(), 0);
        due.is("a new one", x.buyer(1, 5), 0);
        due.is("one is wanted", x.market(5, 1, 0), 5);
    }

    private static void brothers(Due due) {
        due.of("promise 23: brothers");
        LeftShoes x = new LeftShoes();
        due.is("none of none", x.brothers(0, 0), 0);
        due.is("none of none can", x.brothers(0, 1), 0);
        due.is("nobody there", x.brothers(1, 0), -1);
        x.person(0, 0);
        x.person(0, 1);
        x.person(0, 0);
        int[][] shoes = {
            {0, 0, 0, 1}, {0, 0, 0, 5}, {0, 1, 1, 5}, {1, 1, 0, 9}, {1, 0, 1, 0}, {1, 1, 0, 0}, {2, 1, 0, 2}, {2, 0, 1, 3},
            {2, 0, 3, 3}, {2, 1, 2, 3}};
        for (int[] s : shoes) {
            x.shoe(s[0], s[1], s[2], s[3]);
        }
        int[] pairs = {0, 0, 0, 1, 0, 2, 0, 3};
        int[] can = {0, 0, 0, 1, 0, 2, 0, 2};
        for (int set = 0; set < 8; set++) {
            due.is("pairs of " + set, x.brothers(set, 0), pairs[set]);
            due.is("who can, of " + set, x.brothers(set, 1), can[set]);
        }
        x.give(8, 1);
        x.shoe(1, 1, 3, 1);
        due.is("one's own pair", x.brothers(2, 0), 1);
        due.is("but he has one foot", x.brothers(2, 1), 0);
        due.is("set 8", x.brothers(8, 0), -1);
        due.is("set 9", x.brothers(9, 1), -1);
        due.is("set -1", x.brothers(-1, 0), -1);
        due.is("set MIN", x.brothers(MIN, 0), -1);
        due.is("set MAX", x.brothers(MAX, 0), -1);
        due.is("what 2", x.brothers(1, 2), -1);
        due.is("what -1", x.brothers(1, -1), -1);
        x.person(0, 0);
        x.person(0, 0);
        due.is("all five", x.brothers(31, 0), 4);
        due.is("all five who can", x.brothers(31, 1), 4);
        due.is("set 32", x.brothers(32, 0), -1);
    }
}
