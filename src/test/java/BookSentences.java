/** Sentences of a cobbler's book: promise 28. */
final class BookSentences {
    private static final int MIN = Integer.MIN_VALUE, MAX = Integer.MAX_VALUE;

    private BookSentences() {
    }

    static void all(Sentences s) {
        miles(s);
        oneBehindTheOther(s);
        noSuchShoe(s);
        theFirst(s);
        notSoMany(s);
        rows(s);
        refused(s);
    }

    /** One whose SHOES have so many SOLES, of SORTS 0 to 3 in turn. */
    private static LeftShoes shoes(int... soles) {
        LeftShoes x = new LeftShoes();
        x.person(0, 0);
        for (int k = 0; k < soles.length; k++) {
            x.shoe(0, k % 2, k % 4, soles[k]);
        }
        return x;
    }

    private static void first(Sentences s, LeftShoes x, int want, int... items) {
        County.sheet(x, 0, 2, items);
        StringBuilder text = new StringBuilder();
        for (int item : items) {
            text.append(' ').append(item);
        }
        s.is("book of" + text, x.book(0, 2, 0, items.length / 2), want);
    }

    private static void miles(Sentences s) {
        s.terms("A COBBLER's BOOK: rows of a SHOE and MILES (1 .. 99)");
        LeftShoes x = shoes(99, 50);
        first(s, x, -4, 0, 1);
        first(s, x, -4, 0, 99);
        first(s, x, 0, 0, 0);
        first(s, x, 0, 0, 100);
        first(s, x, -4, 1, 50);

        s.terms("MILES are not 1 .. 99,");
        int[] bad = {0, -1, 100, MAX, MIN};
        for (int miles : bad) {
            first(s, x, 0, 0, miles);
            first(s, x, 1, 0, 1, 0, miles, 0, 1);
            first(s, x, 2, 0, 1, 1, 1, 1, miles);
        }
    }

    private static void oneBehindTheOther(Sentences s) {
        s.terms("that he says were walked in it, one behind the other:");
        LeftShoes x = shoes(10, 10);
        first(s, x, -4, 0, 4, 1, 10, 0, 6);
        first(s, x, 2, 0, 4, 1, 10, 0, 7);
        first(s, x, 3, 0, 4, 0, 3, 0, 3, 0, 1);
        first(s, x, 1, 0, 10, 0, 1, 1, 11);
        first(s, x, 2, 0, 1, 1, 10, 1, 1, 0, 9);
    }

    private static void noSuchShoe(Sentences s) {
        s.terms("the first that can't be (there is no such SHOE,");
        LeftShoes x = shoes(10, 10);
        first(s, x, -4, 0, 1, 1, 1);
        int[] bad = {2, -1, 16, MAX, MIN};
        for (int shoe : bad) {
            first(s, x, 0, shoe, 1);
            first(s, x, 1, 0, 1, shoe, 1, 0, 99);
            first(s, x, 0, 0, 99, shoe, 1);
        }
        first(s, new LeftShoes(), 0, 0, 1);
        int[] all = new int[16];
        all[15] = 5;
        LeftShoes y = shoes(all);
        first(s, y, -4, 15, 5);
        first(s, y, 0, 16, 5);
    }

    private static void theFirst(Sentences s) {
        s.promise(28, "the first that can't be.");
        LeftShoes x = shoes(11);
        first(s, x, 0, 1, 0, 0, 12);
        first(s, x, 1, 0, 1, 0, 11, 1, 1);
        first(s, x, 11, 0, 1, 0, 1, 0, 1, 0, 1, 0, 1, 0, 1, 0, 1, 0, 1, 0, 1, 0, 1, 0, 1, 1, 1);
    }

    private static void notSoMany(Sentences s) {
        s.terms("or it has not as many SOLES left, one a MILE of each SORT).");
        LeftShoes x = shoes(10, 11, 12, 13);
        for (int sort = 0; sort < 4; sort++) {
            first(s, x, -4, sort, 10 + sort);
            first(s, x, 0, sort, 11 + sort);
            first(s, x, -4, sort, 9, sort, 1 + sort);
            first(s, x, 1, sort, 9, sort, 2 + sort);
        }
        LeftShoes y = shoes(0, 99, 0, 99);
        first(s, y, 0, 0, 1);
        first(s, y, -4, 1, 99);
        first(s, y, 1, 1, 99, 1, 1);
        first(s, y, -4, 3, 99);
    }

    private static void rows(Sentences s) {
        s.promise(28, "A COBBLER's BOOK: n rows (1 .. 12), two items each likewise:");
        for (int lane = 0; lane < 3; lane++) {
            LeftShoes x = shoes(99);
            int[] items = new int[24];
            for (int k = 1; k < 24; k += 2) {
                items[k] = 8;
            }
            items[23] = 11;
            County.sheet(x, lane, lane, items);
            s.is("12 rows, 99 MILES", x.book(lane, lane, 0, 12), -4);
            s.is("13 rows", x.book(lane, lane, 0, 13), -1);
            s.is("0 rows", x.book(lane, lane, 0, 0), -1);
            s.is("a row", x.book(lane, lane, 22, 1), -4);
            s.is("a row from 1 on: of SHOE 8", x.book(lane, lane, 1, 1), 0);
            s.is("from 2 on, 11 rows", x.book(lane, lane, 2, 11), -4);
            s.is("from 1 on, 11 rows", x.book(lane, lane, 1, 11), 0);
            s.is("from 1 on, 12 rows", x.book(lane, lane, 1, 12), -13);
            s.is("from 23 on, half a row", x.book(lane, lane, 23, 1), -13);
            x.item(lane, lane, 23, 12);
            s.is("12 rows, 100 MILES", x.book(lane, lane, 0, 12), 11);
        }
    }

    private static void refused(Sentences s) {
        s.promise(28, "BAD;");
        s.refused("sheet too small", -1, x -> x.book(-1, 2, 0, 1));
        s.refused("sheet too large", -1, x -> x.book(4, 2, 0, 1));
        s.refused("lane too small", -1, x -> x.book(0, -1, 0, 1));
        s.refused("lane too large", -1, x -> x.book(0, 3, 0, 1));
        s.refused("n 0", -1, x -> x.book(0, 2, 0, 0));
        s.refused("n -1", -1, x -> x.book(0, 2, 0, -1));
        s.refused("n 13", -1, x -> x.book(0, 2, 0, 13));
        s.refused("n MAX", -1, x -> x.book(0, 2, 0, MAX));
        s.refused("n half of all bits", -1, x -> x.book(0, 2, 0, MIN + 1));
        s.refused("extremes", -1, x -> x.book(MIN, MAX, MAX, MIN));

        s.promise(28, "NULL;");
        s.refused("nothing", -11, x -> x.book(3, 2, 0, 1));
        s.refused("nothing as bytes", -11, x -> x.book(3, 0, 0, 12));

        s.promise(28, "CAST;");
        s.refused("ints as bytes", -12, x -> x.book(0, 0, 0, 1));
        s.refused("shorts as ints", -12, x -> x.book(1, 2, 0, 1));
        s.refused("bytes as shorts", -12, x -> x.book(2, 1, 0, 1));

        s.promise(28, "INDEX;");
        s.refused("i -1", -13, x -> x.book(0, 2, -1, 1));
        s.refused("i 4 of 5: half a row", -13, x -> x.book(0, 2, 4, 1));
        s.refused("i 5 of 5", -13, x -> x.book(0, 2, 5, 1));
        s.refused("three rows of two and a half", -13, x -> x.book(0, 2, 0, 3));
        s.refused("a row of none", -13, x -> x.book(2, 0, 0, 1));
        s.refused("i MAX", -13, x -> x.book(0, 2, MAX, 1));
        s.refused("i MIN", -13, x -> x.book(0, 2, MIN, 12));
        s.tells("two rows are there", -4, x -> x.book(0, 2, 0, 2));
        s.tells("from 1 on, too", -4, x -> x.book(0, 2, 1, 1));

        s.promise(28, "NONE: all can be.");
        s.tells("a row", -4, x -> x.book(0, 2, 0, 1));
        LeftShoes y = shoes(1);
        first(s, y, -4, 0, 1);
        first(s, y, 0, 0, 2);

        s.promise(28, "Nothing is changed by it.");
        first(s, y, -4, 0, 1);
        s.is("the same again", y.book(0, 2, 0, 1), -4);
        s.is("SOLES", y.told(0, 2), 1);
        s.is("the SHEET", y.drop(0), 2);
    }
}
