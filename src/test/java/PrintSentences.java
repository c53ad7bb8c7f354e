/** Sentences of prints, of odds: promises 26, 27. */
final class PrintSentences {
    private static final int MIN = Integer.MIN_VALUE, MAX = Integer.MAX_VALUE;

    private PrintSentences() {
    }

    static void all(Sentences s) {
        marks(s);
        inTurn(s);
        againAndAgain(s);
        bareFeet(s);
        shodWays(s);
        alikeWays(s);
        hopWays(s);
        oneFoot(s);
        solesDoNotMatter(s);
        prints(s);
        printsRefused(s);
        odds(s);
        oddsRefused(s);
    }

    /** People of such FEET, SHOES of one, each a FOOT, a SORT. */
    private static LeftShoes wearing(int feet, int... footSort) {
        LeftShoes x = new LeftShoes();
        x.person(0, feet);
        for (int k = 0; k < footSort.length; k += 2) {
            x.shoe(0, footSort[k], footSort[k + 1], 9);
        }
        return x;
    }

    /** The WAYS of person 0 to make this row. */
    private static void ways(Sentences s, LeftShoes x, int want, int... row) {
        County.sheet(x, 0, 2, row);
        StringBuilder text = new StringBuilder();
        for (int mark : row) {
            text.append(' ').append(mark);
        }
        s.is("WAYS of" + text, x.prints(0, 2, 0, row.length, 0, 0), want);
    }

    private static void marks(Sentences s) {
        s.terms("PRINTS are a row: each 2 times (0 bare, 1 and SORT) and FOOT.");
        LeftShoes x = new LeftShoes();
        x.person(0, 0);
        int[] bad = {-1, 10, 11, MIN, MAX};
        for (int mark : bad) {
            ways(s, x, -2, mark);
        }
        for (int foot = 0; foot < 2; foot++) {
            ways(s, x, 1, foot);
        }
        for (int k = 0; k < 8; k++) {
            ways(s, x, 0, 2 + k);
            LeftShoes y = wearing(0, k % 2, k / 2);
            for (int mark = 0; mark < 10; mark++) {
                ways(s, y, mark < 2 || mark == 2 + k ? 1 : 0, mark);
            }
        }
    }

    private static void inTurn(Sentences s) {
        s.terms("By SHOD a SHOE of each FOOT in turn (either first),");
        LeftShoes x = wearing(0, 0, 0, 1, 3);
        ways(s, x, 1, 2, 9);
        ways(s, x, 1, 9, 2);
        ways(s, x, 1, 2, 9, 2);
        ways(s, x, 1, 9, 2, 9, 2);
        ways(s, x, 1, 2, 9, 2, 9, 2, 9, 2, 9, 2, 9, 2, 9);
        ways(s, x, 0, 2, 9, 2, 9, 2, 9, 2, 9, 2, 9, 2, 2);
        ways(s, x, 0, 2, 9, 9);
        ways(s, x, 0, 2, 2, 9);
        ways(s, x, 0, 2, 9, 2, 1);

        s.terms("by ALIKE two of one FOOT in turn,");
        LeftShoes y = wearing(0, 1, 1, 1, 2);
        ways(s, y, 1, 5, 7);
        ways(s, y, 1, 7, 5);
        ways(s, y, 1, 7, 5, 7);
        ways(s, y, 1, 5, 7, 5, 7, 5, 7, 5, 7, 5, 7, 5, 7);
        ways(s, y, 0, 5, 7, 5, 7, 5, 7, 5, 7, 5, 7, 5, 5);
        ways(s, y, 0, 5, 7, 7);
        LeftShoes z = wearing(0, 0, 1, 0, 2);
        ways(s, z, 1, 4, 6, 4);
        ways(s, z, 0, 4, 7, 4);
    }

    private static void againAndAgain(Sentences s) {
        s.terms("by HOP one again and again,");
        LeftShoes x = wearing(0, 0, 3);
        ways(s, x, 1, 8);
        ways(s, x, 1, 8, 8);
        ways(s, x, 1, 8, 8, 8, 8, 8, 8, 8, 8, 8, 8, 8, 8);
        ways(s, x, 0, 8, 8, 8, 8, 8, 8, 8, 8, 8, 8, 8, 9);
        ways(s, x, 0, 9, 8, 8);
    }

    private static void bareFeet(Sentences s) {
        s.terms("by BARE both bare FEET in turn (either may be first).");
        LeftShoes x = wearing(0);
        ways(s, x, 1, 0);
        ways(s, x, 1, 1);
        ways(s, x, 1, 0, 1);
        ways(s, x, 1, 1, 0);
        ways(s, x, 1, 1, 0, 1, 0, 1, 0, 1, 0, 1, 0, 1, 0);
        ways(s, x, 0, 1, 0, 1, 0, 1, 0, 1, 0, 1, 0, 1, 1);
        ways(s, x, 0, 0, 0);
        ways(s, x, 0, 1, 1, 0);

        s.terms("by BARE one;");
        LeftShoes y = wearing(0, 0, 0, 1, 0);
        ways(s, y, 1, 0, 1);
        ways(s, y, 1, 1);
        ways(s, y, 0, 0, 3);
        ways(s, y, 0, 2, 1);
    }

    private static void shodWays(Sentences s) {
        s.terms("WAYS in which one of PEOPLE may have made them: by SHOD each pair of a left and a right one of his,");
        LeftShoes x = wearing(0, 0, 0, 0, 0, 1, 0, 1, 0, 1, 0);
        ways(s, x, 6, 2, 3);
        ways(s, x, 6, 3, 2, 3);
        x.person(0, 0);
        x.give(0, 1);
        ways(s, x, 3, 2, 3);
        x.give(4, 1);
        ways(s, x, 2, 2, 3);
        x.give(1, 1);
        ways(s, x, 0, 2, 3);
        // Of one print: two rights fit, with either left, besides ALIKE and HOP.
        ways(s, wearing(0, 0, 1, 0, 2, 1, 0, 1, 0), 2 * 2 + 2 + 2, 3);
    }

    private static void alikeWays(Sentences s) {
        s.terms("by ALIKE each pair of a FOOT of his (two WAYS, if either of both could be first),");
        // Beside two HOPS.
        ways(s, wearing(0, 0, 0, 0, 0), 2 + 2, 2);
        ways(s, wearing(0, 0, 0, 0, 0), 2 + 2, 2, 2);
        ways(s, wearing(0, 1, 3, 1, 3), 2 + 2, 9, 9, 9);
        ways(s, wearing(0, 0, 0, 0, 0, 0, 0), 6 + 3, 2, 2);
        ways(s, wearing(0, 0, 0, 0, 1), 1 + 1, 2);
        ways(s, wearing(0, 0, 0, 0, 1), 1, 2, 4);
        ways(s, wearing(0, 0, 0, 0, 1), 1, 4, 2);
        ways(s, wearing(0, 0, 0, 0, 0, 0, 1, 0, 1), 4, 2, 4, 2);
        int[] all = new int[32];
        ways(s, wearing(0, all), 16 * 15 + 16, 2, 2, 2, 2, 2, 2, 2, 2, 2, 2, 2, 2);
        LeftShoes x = wearing(0, 0, 0, 0, 0);
        x.tax(5, 1);
        ways(s, x, 2 + 2, 2, 2);
    }

    private static void hopWays(Sentences s) {
        s.terms("by HOP each SHOE of his,");
        LeftShoes x = wearing(0, 0, 2, 1, 2, 1, 1);
        ways(s, x, 1, 6, 6);
        ways(s, x, 1, 7, 7);
        ways(s, x, 1, 5, 5);
        ways(s, x, 0, 4, 4);
        x.person(0, 0);
        x.give(0, 1);
        ways(s, x, 0, 6, 6);
        s.is("his now", x.prints(0, 2, 0, 2, 1, 0), 1);
    }

    private static void oneFoot(Sentences s) {
        s.terms("who has one foot alone: by HOP each SHOE for it, by BARE one (that foot again and again).");
        for (int foot = 0; foot < 2; foot++) {
            LeftShoes x = wearing(1 + foot, foot, 0, foot, 0, foot, 1, 1 - foot, 0);
            ways(s, x, 2, 2 + foot);
            ways(s, x, 2, 2 + foot, 2 + foot, 2 + foot);
            ways(s, x, 1, 4 + foot, 4 + foot);
            ways(s, x, 0, 3 - foot);
            ways(s, x, 0, 3 - foot, 3 - foot);
            ways(s, x, 0, 2 + foot, 3 - foot);
            ways(s, x, 0, 2 + foot, 4 + foot);
            ways(s, x, 1, foot);
            ways(s, x, 1, foot, foot);
            ways(s, x, 1, foot, foot, foot, foot, foot, foot, foot, foot, foot, foot, foot, foot);
            ways(s, x, 0, 1 - foot);
            ways(s, x, 0, foot, 1 - foot);
            ways(s, x, 0, 1 - foot, 1 - foot);
        }
    }

    private static void solesDoNotMatter(Sentences s) {
        s.terms("SOLES do not matter.");
        LeftShoes x = new LeftShoes();
        x.person(0, 0);
        x.person(0, 1);
        County.shoes(x, new int[][] {{0, 0, 0, 0}, {0, 1, 0, 0}, {0, 1, 0, 0}, {1, 0, 3, 0}});
        ways(s, x, 2, 2, 3, 2);
        ways(s, x, 2 + 2, 3, 3);
        ways(s, x, 0, 8);
        s.is("one foot alone", x.prints(0, 2, 0, 1, 1, 0), 1);
    }

    private static void prints(Sentences s) {
        s.promise(26, "PRINTS: n items (1 .. 12) of a SHEET, taken as a row of a LANE, from item i on:");
        for (int lane = 0; lane < 3; lane++) {
            LeftShoes x = wearing(0, 0, 0);
            County.sheet(x, lane, lane, 2, 12, 2, 2, 2, 2, 2, 2, 2, 2, 2, 2, 2, 2, 8);
            s.is("the first", x.prints(lane, lane, 0, 1, 0, 0), 1);
            s.is("two, with one that is no PRINT", x.prints(lane, lane, 0, 2, 0, 0), -2);
            s.is("from 2 on, one", x.prints(lane, lane, 2, 1, 0, 0), 1);
            s.is("from 2 on, twelve", x.prints(lane, lane, 2, 12, 0, 0), 1);
            s.is("from 2 on, thirteen", x.prints(lane, lane, 2, 13, 0, 0), -1);
            s.is("from 3 on, twelve", x.prints(lane, lane, 3, 12, 0, 0), 0);
            s.is("from 4 on, twelve", x.prints(lane, lane, 4, 12, 0, 0), -13);
            s.is("the last", x.prints(lane, lane, 14, 1, 0, 0), 0);
            s.is("behind the last", x.prints(lane, lane, 15, 1, 0, 0), -13);
            s.is("none", x.prints(lane, lane, 0, 0, 0, 0), -1);
        }

        s.promise(26, "WAYS of one of PEOPLE (0), of all (1).");
        LeftShoes y = wearing(0, 0, 0, 0, 0);
        y.person(0, 1);
        y.person(0, 2);
        y.person(0, 0);
        y.shoe(1, 0, 0, 0);
        y.shoe(2, 0, 0, 0);
        County.sheet(y, 0, 2, 2, 2, 1, 0);
        int[] shod = {4, 1, 0, 0};
        int[] bare = {1, 0, 0, 1};
        for (int person = 0; person < 4; person++) {
            s.is("of " + person, y.prints(0, 2, 0, 2, person, 0), shod[person]);
            s.is("of all, called by " + person, y.prints(0, 2, 0, 2, person, 1), 5);
            s.is("bare, of " + person, y.prints(0, 2, 2, 2, person, 0), bare[person]);
            s.is("bare, of all, called by " + person, y.prints(0, 2, 2, 2, person, 1), 2);
        }
    }

    private static void printsRefused(Sentences s) {
        s.promise(26, "BAD;");
        s.refused("sheet too small", -1, x -> x.prints(-1, 2, 0, 1, 0, 0));
        s.refused("sheet too large", -1, x -> x.prints(4, 2, 0, 1, 0, 0));
        s.refused("lane too small", -1, x -> x.prints(0, -1, 0, 1, 0, 0));
        s.refused("lane too large", -1, x -> x.prints(0, 3, 0, 1, 0, 0));
        s.refused("n 0", -1, x -> x.prints(0, 2, 0, 0, 0, 0));
        s.refused("n -1", -1, x -> x.prints(0, 2, 0, -1, 0, 0));
        s.refused("n 13", -1, x -> x.prints(0, 2, 0, 13, 0, 0));
        s.refused("n MAX", -1, x -> x.prints(0, 2, 1, MAX, 0, 0));
        s.refused("person too small", -1, x -> x.prints(0, 2, 0, 1, -1, 0));
        s.refused("person not there", -1, x -> x.prints(0, 2, 0, 1, 4, 0));
        s.refused("person not there, of all", -1, x -> x.prints(0, 2, 0, 1, 4, 1));
        s.refused("what too small", -1, x -> x.prints(0, 2, 0, 1, 0, -1));
        s.refused("what too large", -1, x -> x.prints(0, 2, 0, 1, 0, 2));
        s.refused("extremes", -1, x -> x.prints(MIN, MAX, MIN, MAX, MIN, MAX));

        s.promise(26, "NULL;");
        for (int lane = 0; lane < 3; lane++) {
            int asLane = lane;
            s.refused("nothing as lane " + lane, -11, x -> x.prints(3, asLane, 0, 1, 0, 0));
        }

        s.promise(26, "CAST;");
        s.refused("ints as shorts", -12, x -> x.prints(0, 1, 0, 1, 0, 0));
        s.refused("shorts as bytes", -12, x -> x.prints(1, 0, 0, 1, 0, 0));
        s.refused("bytes as ints", -12, x -> x.prints(2, 2, 0, 1, 0, 0));

        s.promise(26, "INDEX;");
        s.refused("i -1", -13, x -> x.prints(0, 2, -1, 1, 0, 0));
        s.refused("i 5", -13, x -> x.prints(0, 2, 5, 1, 0, 0));
        s.refused("one of none", -13, x -> x.prints(2, 0, 0, 1, 0, 0));
        s.refused("four of three", -13, x -> x.prints(1, 1, 0, 4, 0, 0));
        s.refused("i MAX", -13, x -> x.prints(0, 2, MAX, 12, 0, 0));
        s.refused("i MIN", -13, x -> x.prints(0, 2, MIN, 12, 0, 0));
        s.tells("three of three are there", 0, x -> x.prints(1, 1, 0, 3, 1, 0));

        s.promise(26, "NOT: one is no PRINT.");
        int[] bad = {-1, 10, 127, -128, MAX, MIN};
        for (int mark : bad) {
            for (int place = 0; place < 3; place++) {
                LeftShoes x = wearing(0, 0, 0);
                County.sheet(x, 0, 2, 2, 2, 2);
                x.item(0, 2, place, mark);
                s.is(mark + " at " + place, x.prints(0, 2, 0, 3, 0, 0), -2);
                s.is(mark + " at " + place + ", of all", x.prints(0, 2, 0, 3, 0, 1), -2);
            }
        }
    }

    private static void odds(Sentences s) {
        s.terms("ODDS of one: his WAYS by those of all.");
        LeftShoes x = wearing(0, 0, 0, 0, 0);
        x.person(0, 1);
        x.person(0, 0);
        x.shoe(1, 0, 0, 0);
        x.shoe(1, 0, 0, 0);
        County.sheet(x, 0, 1, 2, 2, 1, 0, 0);
        fraction(s, x, 0, 2, 0, 2, 3);
        fraction(s, x, 0, 2, 1, 1, 3);
        fraction(s, x, 0, 2, 2, 0, 1);
        fraction(s, x, 2, 2, 0, 1, 2);
        fraction(s, x, 2, 2, 2, 1, 2);
        fraction(s, x, 3, 2, 1, 1, 1);
        fraction(s, x, 3, 2, 0, 0, 1);
        fraction(s, x, 3, 1, 0, 1, 3);

        s.promise(27, "ODDS of one of PEOPLE by PRINTS likewise.");
        LeftShoes y = wearing(0, 0, 0);
        for (int lane = 0; lane < 3; lane++) {
            County.sheet(y, lane, lane, 8, 2, 2, 2, 2, 2, 2, 2, 2, 2, 2, 2, 2, 8);
            s.is("from 1 on, twelve", y.odds(lane, lane, 1, 12, 0, 0), 1);
            s.is("from 1 on, thirteen", y.odds(lane, lane, 1, 13, 0, 0), -1);
            s.is("from 2 on, twelve", y.odds(lane, lane, 2, 12, 0, 0), -4);
            s.is("from 3 on, twelve", y.odds(lane, lane, 3, 12, 0, 0), -13);
            s.is("one", y.odds(lane, lane, 1, 1, 0, 1), 1);
            s.is("none", y.odds(lane, lane, 1, 0, 0, 1), -1);
        }
    }

    private static void fraction(Sentences s, LeftShoes x, int i, int n, int person, int above, int below) {
        s.is("odds from " + i + ", " + n + " of " + person, x.odds(0, 1, i, n, person, 0), above);
        s.is("odds from " + i + ", " + n + " of " + person + ", below", x.odds(0, 1, i, n, person, 1), below);
    }

    private static void oddsRefused(Sentences s) {
        s.promise(27, "BAD;");
        s.refused("sheet too small", -1, x -> x.odds(-1, 2, 0, 1, 0, 0));
        s.refused("sheet too large", -1, x -> x.odds(4, 2, 0, 1, 0, 0));
        s.refused("lane too small", -1, x -> x.odds(0, -1, 0, 1, 0, 0));
        s.refused("lane too large", -1, x -> x.odds(0, 3, 0, 1, 0, 0));
        s.refused("n 0", -1, x -> x.odds(0, 2, 0, 0, 0, 0));
        s.refused("n 13", -1, x -> x.odds(0, 2, 0, 13, 0, 0));
        s.refused("n MIN", -1, x -> x.odds(0, 2, 0, MIN, 0, 0));
        s.refused("person too small", -1, x -> x.odds(0, 2, 0, 1, -1, 0));
        s.refused("person not there", -1, x -> x.odds(0, 2, 0, 1, 4, 0));
        s.refused("part too small", -1, x -> x.odds(0, 2, 0, 1, 0, -1));
        s.refused("part too large", -1, x -> x.odds(0, 2, 0, 1, 0, 2));
        s.refused("extremes", -1, x -> x.odds(MAX, MIN, MAX, MIN, MAX, MIN));

        s.promise(27, "NULL;");
        s.refused("nothing", -11, x -> x.odds(3, 2, 0, 1, 0, 0));
        s.refused("nothing, below", -11, x -> x.odds(3, 0, 0, 1, 0, 1));

        s.promise(27, "CAST;");
        s.refused("ints as bytes", -12, x -> x.odds(0, 0, 0, 1, 0, 0));
        s.refused("shorts as ints", -12, x -> x.odds(1, 2, 0, 1, 0, 0));
        s.refused("bytes as shorts", -12, x -> x.odds(2, 1, 0, 1, 0, 0));

        s.promise(27, "INDEX;");
        s.refused("i -1", -13, x -> x.odds(0, 2, -1, 1, 0, 0));
        s.refused("i 5", -13, x -> x.odds(0, 2, 5, 1, 0, 0));
        s.refused("one of none", -13, x -> x.odds(2, 0, 0, 1, 0, 0));
        s.refused("four of three", -13, x -> x.odds(1, 1, 0, 4, 0, 0));
        s.refused("i MAX", -13, x -> x.odds(0, 2, MAX, 12, 0, 0));
        s.refused("i MIN", -13, x -> x.odds(0, 2, MIN, 12, 0, 0));

        s.promise(27, "NOT: one is no PRINT;");
        s.refused("12", -2, x -> x.odds(0, 2, 4, 1, 0, 0));
        s.refused("12 behind others", -2, x -> x.odds(0, 2, 0, 5, 0, 1));
        LeftShoes y = wearing(0, 0, 0);
        County.sheet(y, 0, 0, 2, -1, 2, 10);
        s.is("-1", y.odds(0, 0, 0, 2, 0, 0), -2);
        s.is("10", y.odds(0, 0, 2, 2, 0, 0), -2);

        s.promise(27, "NONE: nobody has WAYS.");
        s.refused("a right clog", -4, x -> x.odds(0, 2, 3, 1, 0, 0));
        s.refused("a right clog, below", -4, x -> x.odds(0, 2, 3, 1, 3, 1));
        s.tells("a left one is there", 1, x -> x.odds(0, 2, 0, 1, 0, 0));
    }
}
