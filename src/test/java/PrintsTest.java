/** Promises 26 to 28: prints, odds, a cobbler's book. */
public final class PrintsTest {
    private static final int MIN = Integer.MIN_VALUE, MAX = Integer.MAX_VALUE;

    public static void main(String[] args) {
        Due due = new Due();
        ways(due);
        waysOnOneFoot(due);
        places(due);
        printsRefused(due);
        odds(due);
        oddsRefused(due);
        book(due);
        bookLanes(due);
        bookRefused(due);
        due.end();
    }

    /** Puts a row into sheet 0 as ints. */
    private static void lay(LeftShoes x, int... row) {
        x.sheet(0, 2, row.length);
        for (int k = 0; k < row.length; k++) {
            x.item(0, 2, k, row[k]);
        }
    }

    private static int ways(LeftShoes x, int person, int... row) {
        lay(x, row);
        return x.prints(0, 2, 0, row.length, person, 0);
    }

    private static int waysOfAll(LeftShoes x, int... row) {
        lay(x, row);
        return x.prints(0, 2, 0, row.length, 0, 1);
    }

    private static int odds(LeftShoes x, int person, int part, int... row) {
        lay(x, row);
        return x.odds(0, 2, 0, row.length, person, part);
    }

    /**
     * 0 with both FEET: lefts plain, plain, stout; rights plain, silk. 1 with the left one alone: lefts plain, plain,
     * a right clog. 2 with the right one alone, without shoes. 3 with both, a left plain one.
     */
    private static LeftShoes county() {
        LeftShoes x = new LeftShoes();
        x.person(0, 0);
        x.person(0, 1);
        x.person(0, 2);
        x.person(0, 0);
        int[][] shoes = {{0, 0, 0}, {0, 0, 0}, {0, 0, 1}, {0, 1, 0}, {0, 1, 3}, {1, 0, 0}, {1, 0, 0}, {1, 1, 2}, {3, 0, 0}};
        for (int[] s : shoes) {
            x.shoe(s[0], s[1], s[2], 0);
        }
        return x;
    }

    private static void ways(Due due) {
        due.of("promise 26: prints, ways of both feet");
        LeftShoes x = county();
        // Shod with 2 rights each, alike with 2 other lefts each, hop: for each of the two plain lefts.
        due.is("a plain left", ways(x, 0, 2), 2 * (2 + 2 + 1));
        due.is("a stout left", ways(x, 0, 4), 2 + 2 + 1);
        due.is("a plain right", ways(x, 0, 3), 3 + 1 + 1);
        due.is("a silk right", ways(x, 0, 9), 3 + 1 + 1);
        due.is("a clog", ways(x, 0, 6), 0);
        due.is("a bare left", ways(x, 0, 0), 1);
        due.is("a bare right", ways(x, 0, 1), 1);
        due.is("left, right", ways(x, 0, 2, 3), 2);
        due.is("right, left", ways(x, 0, 3, 2, 3), 2);
        due.is("right, left twice", ways(x, 0, 3, 2, 2), 0);
        due.is("left plain twice: two alike, either first, two hops", ways(x, 0, 2, 2), 4);
        due.is("likewise thrice", ways(x, 0, 2, 2, 2), 4);
        due.is("plain, stout", ways(x, 0, 2, 4), 2);
        due.is("stout, plain, stout", ways(x, 0, 4, 2, 4), 2);
        due.is("stout twice", ways(x, 0, 4, 4), 1);
        due.is("rights alike", ways(x, 0, 3, 9, 3, 9), 1);
        due.is("rights alike, the other first", ways(x, 0, 9, 3), 1);
        due.is("bare in turn", ways(x, 0, 0, 1, 0), 1);
        due.is("bare in turn, right first", ways(x, 0, 1, 0), 1);
        due.is("bare on one foot", ways(x, 0, 0, 0), 0);
        due.is("bare and shod", ways(x, 0, 0, 3), 0);
        due.is("twelve", ways(x, 0, 2, 9, 2, 9, 2, 9, 2, 9, 2, 9, 2, 9), 2);
        due.is("twelve, the last wrong", ways(x, 0, 2, 9, 2, 9, 2, 9, 2, 9, 2, 9, 2, 2), 0);
        due.is("one shoe alone: hop", ways(x, 3, 2), 1);
        due.is("a person without shoes", ways(x, 2, 3), 0);
    }

    private static void waysOnOneFoot(Due due) {
        due.of("promise 26: prints, ways of one foot, of all");
        LeftShoes x = county();
        due.is("hops on two plain lefts", ways(x, 1, 2), 2);
        due.is("again and again", ways(x, 1, 2, 2, 2), 2);
        due.is("a right one is not for it", ways(x, 1, 7), 0);
        due.is("bare left", ways(x, 1, 0), 1);
        due.is("bare left again", ways(x, 1, 0, 0), 1);
        due.is("bare right", ways(x, 1, 1), 0);
        due.is("bare in turn", ways(x, 1, 0, 1), 0);
        due.is("bare right of the other", ways(x, 2, 1, 1, 1), 1);
        due.is("bare left of the other", ways(x, 2, 0), 0);
        due.is("all: a plain left", waysOfAll(x, 2), 10 + 2 + 0 + 1);
        due.is("all: a bare left", waysOfAll(x, 0), 1 + 1 + 0 + 1);
        due.is("all: bare rights", waysOfAll(x, 1, 1), 1);
        due.is("all: bare in turn", waysOfAll(x, 1, 0), 2);
        due.is("all: a clog", waysOfAll(x, 7), 0);
        x.give(7, 3);
        due.is("given away: shod, hop", ways(x, 3, 7), 2);
    }

    private static void places(Due due) {
        due.of("promise 26: prints, from an item on, of each lane");
        LeftShoes x = county();
        for (int lane = 0; lane < 3; lane++) {
            x.sheet(lane + 1, lane, 24);
            for (int k = 0; k < 24; k++) {
                x.item(lane + 1, lane, k, k < 12 ? 2 : 10);
            }
            x.item(lane + 1, lane, 11, 4);
            due.is("12 items", x.prints(lane + 1, lane, 0, 12, 0, 0), 0);
            due.is("11 items", x.prints(lane + 1, lane, 0, 11, 0, 0), 4);
            due.is("the last two of them", x.prints(lane + 1, lane, 10, 2, 0, 0), 2);
            due.is("one behind is no print", x.prints(lane + 1, lane, 10, 3, 0, 0), -2);
            due.is("one ahead does not count", x.prints(lane + 1, lane, 11, 1, 0, 0), 5);
            due.is("to the end", x.prints(lane + 1, lane, 23, 1, 0, 0), -2);
        }
    }

    private static void printsRefused(Due due) {
        due.of("promise 26: prints, wrong inputs");
        LeftShoes x = county();
        lay(x, 2, 3, 10, -1, 0);
        due.is("10", x.prints(0, 2, 2, 1, 0, 0), -2);
        due.is("-1", x.prints(0, 2, 3, 1, 0, 0), -2);
        due.is("10 behind", x.prints(0, 2, 1, 2, 0, 0), -2);
        due.is("10 behind one that does not fit", x.prints(0, 2, 0, 3, 2, 1), -2);
        due.is("n 0", x.prints(0, 2, 0, 0, 0, 0), -1);
        due.is("n 13", x.prints(0, 2, 0, 13, 0, 0), -1);
        due.is("n -1", x.prints(0, 2, 0, -1, 0, 0), -1);
        due.is("sheet 4", x.prints(4, 2, 0, 1, 0, 0), -1);
        due.is("sheet -1", x.prints(-1, 2, 0, 1, 0, 0), -1);
        due.is("lane 3", x.prints(0, 3, 0, 1, 0, 0), -1);
        due.is("lane -1", x.prints(0, -1, 0, 1, 0, 0), -1);
        due.is("person 4", x.prints(0, 2, 0, 1, 4, 0), -1);
        due.is("person -1", x.prints(0, 2, 0, 1, -1, 1), -1);
        due.is("what 2", x.prints(0, 2, 0, 1, 0, 2), -1);
        due.is("what -1", x.prints(0, 2, 0, 1, 0, -1), -1);
        due.is("bad ahead of null", x.prints(1, 2, 0, 1, 0, 2), -1);
        due.is("null", x.prints(1, 2, 0, 1, 0, 0), -11);
        due.is("null ahead of index", x.prints(1, 2, -1, 1, 0, 0), -11);
        due.is("cast", x.prints(0, 1, 0, 1, 0, 0), -12);
        due.is("cast ahead of index", x.prints(0, 0, 9, 1, 0, 0), -12);
        due.is("i -1", x.prints(0, 2, -1, 1, 0, 0), -13);
        due.is("i 5", x.prints(0, 2, 5, 1, 0, 0), -13);
        due.is("one too many", x.prints(0, 2, 4, 2, 0, 0), -13);
        due.is("index ahead of not", x.prints(0, 2, 2, 4, 0, 0), -13);
        due.is("i MAX", x.prints(0, 2, MAX, 12, 0, 0), -13);
        due.is("i MIN", x.prints(0, 2, MIN, 12, 0, 0), -13);
        due.is("the last", x.prints(0, 2, 4, 1, 0, 0), 1);
    }

    private static void odds(Due due) {
        due.of("promise 27: odds");
        LeftShoes x = county();
        int[][] want = {{10, 13}, {2, 13}, {0, 1}, {1, 13}};
        int[][] bare = {{1, 2}, {0, 1}, {0, 1}, {1, 2}};
        int[][] twice = {{4, 7}, {2, 7}, {0, 1}, {1, 7}};
        int[][] rights = {{1, 1}, {0, 1}, {0, 1}, {0, 1}};
        for (int person = 0; person < 4; person++) {
            for (int part = 0; part < 2; part++) {
                due.is("a plain left, " + person, odds(x, person, part, 2), want[person][part]);
                due.is("bare in turn, " + person, odds(x, person, part, 1, 0), bare[person][part]);
                due.is("plain lefts, " + person, odds(x, person, part, 2, 2), twice[person][part]);
                due.is("rights, " + person, odds(x, person, part, 3, 9), rights[person][part]);
            }
        }
        x.give(5, 3);
        // 10, 1, 0, 4: shod none; alike two ways, hops two; so 10 by 15.
        due.is("in lowest terms, above", odds(x, 0, 0, 2), 2);
        due.is("in lowest terms, below", odds(x, 0, 1, 2), 3);
    }

    private static void oddsRefused(Due due) {
        due.of("promise 27: odds, wrong inputs");
        LeftShoes x = county();
        due.is("nobody has a way", odds(x, 0, 0, 7), -4);
        due.is("nobody has a way, below", odds(x, 0, 1, 2, 0), -4);
        lay(x, 7, 10);
        due.is("not ahead of none", x.odds(0, 2, 0, 2, 0, 0), -2);
        due.is("n 0", x.odds(0, 2, 0, 0, 0, 0), -1);
        due.is("n 13", x.odds(0, 2, 0, 13, 0, 0), -1);
        due.is("sheet 4", x.odds(4, 2, 0, 1, 0, 0), -1);
        due.is("lane 3", x.odds(0, 3, 0, 1, 0, 0), -1);
        due.is("person 4", x.odds(0, 2, 0, 1, 4, 0), -1);
        due.is("part 2", x.odds(0, 2, 0, 1, 0, 2), -1);
        due.is("part -1, ahead of null", x.odds(1, 2, 0, 1, 0, -1), -1);
        due.is("null", x.odds(1, 1, 0, 1, 0, 0), -11);
        due.is("cast", x.odds(0, 1, 0, 1, 0, 0), -12);
        due.is("i 2", x.odds(0, 2, 2, 1, 0, 0), -13);
        due.is("i -1", x.odds(0, 2, -1, 2, 0, 0), -13);
        due.is("one too many", x.odds(0, 2, 1, 2, 0, 0), -13);
    }

    private static int bookOf(LeftShoes x, int... row) {
        lay(x, row);
        return x.book(0, 2, 0, row.length / 2);
    }

    private static void book(Due due) {
        due.of("promise 28: book");
        LeftShoes x = new LeftShoes();
        due.is("no shoe at all", bookOf(x, 0, 1), 0);
        x.person(0, 0);
        x.shoe(0, 0, 0, 10);
        x.shoe(0, 1, 3, 99);
        x.shoe(0, 1, 1, 0);
        due.is("all can be", bookOf(x, 0, 10, 1, 99), -4);
        due.is("silk takes one a mile here", bookOf(x, 1, 50, 1, 49), -4);
        due.is("one too much", bookOf(x, 0, 11), 0);
        due.is("one behind the other", bookOf(x, 0, 4, 1, 5, 0, 6), -4);
        due.is("too much together", bookOf(x, 0, 4, 1, 5, 0, 7, 0, 1), 2);
        due.is("none left", bookOf(x, 0, 10, 0, 1), 1);
        due.is("no soles", bookOf(x, 1, 1, 2, 1), 1);
        due.is("shoe 3", bookOf(x, 0, 1, 3, 1), 1);
        due.is("shoe -1", bookOf(x, -1, 1, 0, 1), 0);
        due.is("0 miles", bookOf(x, 0, 1, 0, 0), 1);
        due.is("-1 miles", bookOf(x, 0, 1, 0, -1, 0, 99), 1);
        due.is("100 miles", bookOf(x, 1, 100), 0);
        due.is("extremes", bookOf(x, MIN, MAX), 0);
        due.is("MAX miles", bookOf(x, 0, 1, 0, 1, 0, MAX), 2);
        due.is("the first of two", bookOf(x, 0, 1, 2, 1, 3, 1), 1);
        int[] twelve = new int[24];
        for (int k = 0; k < 12; k++) {
            twelve[2 * k] = 1;
            twelve[2 * k + 1] = 8;
        }
        due.is("twelve rows, 96", bookOf(x, twelve), -4);
        twelve[23] = 12;
        due.is("twelve rows, 100", bookOf(x, twelve), 11);
        due.is("nothing is changed: soles", x.told(0, 2), 10);
        due.is("nothing is changed: all soles", x.count(3), 109);
        due.is("nothing is changed: the same again", x.book(0, 2, 0, 12), 11);
    }

    private static void bookLanes(Due due) {
        due.of("promise 28: book, from an item on, of each lane");
        LeftShoes x = new LeftShoes();
        x.person(0, 0);
        x.shoe(0, 0, 0, 10);
        for (int lane = 0; lane < 3; lane++) {
            x.sheet(lane, lane, 6);
            x.item(lane, lane, 0, 5);
            x.item(lane, lane, 1, 0);
            x.item(lane, lane, 2, 10);
            x.item(lane, lane, 3, 0);
            x.item(lane, lane, 4, 1);
            due.is("from 1 on, a row", x.book(lane, lane, 1, 1), -4);
            due.is("from 1 on, two rows", x.book(lane, lane, 1, 2), 1);
            due.is("from 0 on", x.book(lane, lane, 0, 1), 0);
            due.is("from 3 on", x.book(lane, lane, 3, 1), -4);
        }
    }

    private static void bookRefused(Due due) {
        due.of("promise 28: book, wrong inputs");
        LeftShoes x = new LeftShoes();
        x.person(0, 0);
        x.shoe(0, 0, 0, 10);
        lay(x, 0, 1, 0, 1, 0);
        due.is("n 0", x.book(0, 2, 0, 0), -1);
        due.is("n 13", x.book(0, 2, 0, 13), -1);
        due.is("n -1", x.book(0, 2, 0, -1), -1);
        due.is("n MAX", x.book(0, 2, 0, MAX), -1);
        due.is("sheet 4", x.book(4, 2, 0, 1), -1);
        due.is("sheet -1", x.book(-1, 2, 0, 1), -1);
        due.is("lane 3", x.book(0, 3, 0, 1), -1);
        due.is("lane -1", x.book(0, -1, 0, 1), -1);
        due.is("bad ahead of null", x.book(1, 2, 0, 0), -1);
        due.is("null", x.book(1, 2, 0, 1), -11);
        due.is("cast", x.book(0, 0, -1, 1), -12);
        due.is("i -1", x.book(0, 2, -1, 1), -13);
        due.is("half a row", x.book(0, 2, 4, 1), -13);
        due.is("two rows and a half", x.book(0, 2, 0, 3), -13);
        due.is("i 6", x.book(0, 2, 6, 1), -13);
        due.is("i MAX", x.book(0, 2, MAX, 1), -13);
        due.is("two rows", x.book(0, 2, 0, 2), -4);
        due.is("from 1 on: no shoe 1", x.book(0, 2, 1, 2), 0);
    }
}
