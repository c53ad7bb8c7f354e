/** Sentences of fords, paths, what comes over UNSEEN: promises 17 to 19. */
final class FordSentences {
    private static final int MIN = Integer.MIN_VALUE, MAX = Integer.MAX_VALUE;

    private FordSentences() {
    }

    static void all(Sentences s) {
        fords(s);
        watched(s);
        sevenPaths(s);
        greatest(s);
        fewest(s);
        path(s);
        refusals(s);
    }

    /** UNSEEN, its fewest PATHS, each way round. */
    private static void unseen(Sentences s, LeftShoes x, int one, int other, int above, int below, int paths) {
        for (int turn = 0; turn < 2; turn++) {
            int from = turn == 0 ? one : other;
            int to = turn == 0 ? other : one;
            s.is("unseen(" + from + ", " + to + ", 0)", x.unseen(from, to, 0), above);
            s.is("unseen(" + from + ", " + to + ", 1)", x.unseen(from, to, 1), below);
            s.is("paths(" + from + ", " + to + ")", x.paths(from, to), paths);
        }
    }

    private static void noWay(Sentences s, LeftShoes x, int from, int to) {
        s.is("unseen(" + from + ", " + to + ", 0)", x.unseen(from, to, 0), -4);
        s.is("unseen(" + from + ", " + to + ", 1)", x.unseen(from, to, 1), -4);
        s.is("paths(" + from + ", " + to + ")", x.paths(from, to), -4);
    }

    private static void fords(Sentences s) {
        s.terms("FORDS 0 .. 7 are joined by PATHS (each pair once),");
        LeftShoes x = new LeftShoes();
        s.is("8", x.path(0, 8, 0), -1);
        s.is("-1", x.path(-1, 7, 0), -1);
        int joined = 0;
        for (int one = 0; one < 8; one++) {
            for (int other = one + 1; other < 8; other++) {
                s.is("no PATH yet", x.path(one, other, 1), 99);
                s.is("the same one the other way round", x.path(other, one, 2), 101);
                s.is("and again", x.path(one, other, 3), 102);
                joined++;
                s.is("PATHS", x.count(5), joined);
            }
        }
        s.is("28 in all", joined, 28);
    }

    private static void watched(Sentences s) {
        s.terms("WATCHED by so many sixteenths (0 .. 15).");
        LeftShoes x = new LeftShoes();
        s.is("16", x.path(0, 1, 16), -1);
        s.is("-2", x.path(0, 1, -2), -1);
        s.is("15", x.path(0, 1, 15), 99);
        unseen(s, x, 0, 1, 1, 16, 1);
        s.is("0", x.path(0, 1, 0), 115);
        unseen(s, x, 0, 1, 1, 1, 1);
    }

    private static void sevenPaths(Sentences s) {
        s.terms("UNSEEN from one to another: of all ways of 7 PATHS at most");
        LeftShoes x = new LeftShoes();
        for (int k = 0; k < 7; k++) {
            x.path(k, k + 1, 15);
        }
        unseen(s, x, 0, 6, 1, 1 << 24, 6);
        unseen(s, x, 0, 7, 1, 1 << 28, 7);
        x.path(3, 4, -1);
        noWay(s, x, 0, 7);
        noWay(s, x, 4, 3);
        unseen(s, x, 4, 7, 1, 4096, 3);
    }

    private static void greatest(Sentences s) {
        s.terms("the greatest product of (16 less WATCHED) by 16;");
        LeftShoes x = new LeftShoes();
        for (int k = 0; k < 7; k++) {
            x.path(k, k + 1, 1);
        }
        unseen(s, x, 0, 7, 170859375, 1 << 28, 7);
        // 10 by 16 is less, 11 by 16 more.
        x.path(0, 7, 6);
        unseen(s, x, 0, 7, 170859375, 1 << 28, 7);
        x.path(0, 7, 5);
        unseen(s, x, 0, 7, 11, 16, 1);
        LeftShoes y = new LeftShoes();
        y.path(0, 1, 8);
        y.path(1, 3, 8);
        y.path(0, 2, 4);
        y.path(2, 3, 13);
        unseen(s, y, 0, 3, 1, 4, 2);
        y.path(2, 3, 10);
        unseen(s, y, 0, 3, 9, 32, 2);
    }

    private static void fewest(Sentences s) {
        s.terms("the fewest PATHS with that.");
        LeftShoes x = new LeftShoes();
        x.path(0, 1, 8);
        x.path(1, 2, 8);
        unseen(s, x, 0, 2, 1, 4, 2);
        x.path(0, 2, 13);
        unseen(s, x, 0, 2, 1, 4, 2);
        x.path(0, 2, 12);
        unseen(s, x, 0, 2, 1, 4, 1);
        LeftShoes y = new LeftShoes();
        for (int k = 0; k < 7; k++) {
            y.path(k, k + 1, 0);
        }
        unseen(s, y, 0, 7, 1, 1, 7);
        y.path(2, 5, 0);
        unseen(s, y, 0, 7, 1, 1, 5);
        y.path(0, 7, 1);
        unseen(s, y, 0, 7, 1, 1, 5);
        y.path(0, 7, 0);
        unseen(s, y, 0, 7, 1, 1, 1);
        unseen(s, y, 2, 7, 1, 1, 3);

        s.promise(19, "The fewest PATHS of UNSEEN.");
        unseen(s, y, 0, 4, 1, 1, 4);
        y.path(2, 5, 15);
        unseen(s, y, 2, 5, 1, 1, 3);
    }

    private static void path(Sentences s) {
        s.promise(17, "A PATH of two FORDS is WATCHED so (-1: there is none any more):");
        LeftShoes x = new LeftShoes();
        x.path(0, 1, 8);
        unseen(s, x, 0, 1, 1, 2, 1);
        x.path(1, 0, 4);
        unseen(s, x, 0, 1, 3, 4, 1);
        x.path(0, 1, -1);
        noWay(s, x, 0, 1);
        s.is("PATHS", x.count(5), 0);

        s.promise(17, "what it was (-1: there was none), and 100.");
        s.is("none was, none is", x.path(2, 3, -1), 99);
        for (int v = 0; v < 16; v++) {
            s.is("none was", x.path(2, 3, v), 99);
            s.is("it was " + v, x.path(3, 2, -1), 100 + v);
        }
        s.is("none was", x.path(2, 3, 7), 99);
        s.is("it was 7", x.path(2, 3, 7), 107);

        s.promise(17, "BAD: also itself.");
        for (int ford = 0; ford < 8; ford++) {
            int itself = ford;
            s.refused("itself: " + ford, -1, y -> y.path(itself, itself, 0));
        }
        s.refused("itself, for none", -1, y -> y.path(1, 1, -1));
        s.refused("one too small", -1, y -> y.path(-1, 1, 0));
        s.refused("one too large", -1, y -> y.path(8, 1, 0));
        s.refused("other too small", -1, y -> y.path(1, -1, 0));
        s.refused("other too large", -1, y -> y.path(1, 8, 0));
        s.refused("watched too small", -1, y -> y.path(0, 1, -2));
        s.refused("watched too large", -1, y -> y.path(0, 1, 16));
        s.refused("extremes", -1, y -> y.path(MIN, MAX, MAX));
        s.refused("watched MIN", -1, y -> y.path(0, 1, MIN));
    }

    private static void refusals(Sentences s) {
        s.promise(18, "UNSEEN.");
        LeftShoes x = new LeftShoes();
        x.path(6, 7, 14);
        x.path(7, 5, 3);
        s.is("above", x.unseen(6, 5, 0), 13);
        s.is("below", x.unseen(6, 5, 1), 128);

        s.promise(18, "BAD: also itself;");
        for (int ford = 0; ford < 8; ford++) {
            int itself = ford;
            s.refused("itself: " + ford, -1, y -> y.unseen(itself, itself, 0));
        }
        s.refused("from too small", -1, y -> y.unseen(-1, 1, 0));
        s.refused("from too large", -1, y -> y.unseen(8, 1, 0));
        s.refused("to too small", -1, y -> y.unseen(1, -1, 0));
        s.refused("to too large", -1, y -> y.unseen(1, 8, 0));
        s.refused("part too small", -1, y -> y.unseen(0, 1, -1));
        s.refused("part too large", -1, y -> y.unseen(0, 1, 2));
        s.refused("extremes", -1, y -> y.unseen(MAX, MIN, MIN));

        s.promise(18, "NONE: there is no way.");
        s.refused("part 0", -4, y -> y.unseen(0, 3, 0));
        s.refused("part 1", -4, y -> y.unseen(0, 3, 1));
        s.refused("back", -4, y -> y.unseen(3, 0, 0));
        s.refusedByFull("no PATHS", -4, y -> y.unseen(0, 7, 0));

        s.promise(19, "BAD: also itself;");
        for (int ford = 0; ford < 8; ford++) {
            int itself = ford;
            s.refused("itself: " + ford, -1, y -> y.paths(itself, itself));
        }
        s.refused("from too small", -1, y -> y.paths(-1, 1));
        s.refused("from too large", -1, y -> y.paths(8, 1));
        s.refused("to too small", -1, y -> y.paths(1, -1));
        s.refused("to too large", -1, y -> y.paths(1, 8));
        s.refused("extremes", -1, y -> y.paths(MIN, MAX));

        s.promise(19, "NONE: there is no way.");
        s.refused("to 3", -4, y -> y.paths(0, 3));
        s.refused("back", -4, y -> y.paths(3, 0));
        s.refusedByFull("no PATHS", -4, y -> y.paths(0, 7));
    }
}
