/** Sentences of the tax, the road by their calls, and of typing: promises 8 to 10. */
final class TaxSentences {
    private static final int MIN = Integer.MIN_VALUE, MAX = Integer.MAX_VALUE;

    private TaxSentences() {
    }

    static void all(Sentences s) {
        foot(s);
        rates(s);
        fine(s);
        zeroAtFirst(s);
        tax(s);
        miles(s);
        road(s);
        type(s);
        typeRefused(s);
        typeFull(s);
    }

    /** One with both FEET, much money, a plain left of SORT, a plain right: in 180 he goes shod. */
    private static LeftShoes shod(int sort) {
        LeftShoes x = new LeftShoes();
        x.person(9999, 0);
        x.shoe(0, 0, sort, 99);
        x.shoe(0, 1, 0, 99);
        return x;
    }

    /** The COST of going shod all MILES, as fast as can be, in sixteenths. */
    private static int cost(LeftShoes x) {
        int best = LeftShoes.NONE;
        for (int minutes = 170; best == LeftShoes.NONE && minutes < 200; minutes++) {
            best = x.cheapest(0, 0, 1, -1, minutes, -1);
        }
        return best;
    }

    private static void foot(Sentences s) {
        s.terms("THE TAX lies on one FOOT (the left one at first):");
        LeftShoes x = shod(0);
        s.is("a left one first", x.minutes(0, 0, 0, 1), 20);
        s.is("a right one first", x.minutes(0, 0, 1, 0), -1);
        s.is("it becomes the right one", x.tax(5, 1), 0);
        s.is("a left one first", x.minutes(0, 0, 0, 1), -1);
        s.is("a right one first", x.minutes(0, 0, 1, 0), 20);
    }

    private static void rates(Sentences s) {
        s.terms("for a STAMPED SHOE of it a RATE (0 .. 9 pence a MILE) of its SORT;");
        for (int sort = 0; sort < 4; sort++) {
            LeftShoes x = shod(sort);
            x.stamp(0, true);
            x.stamp(1, true);
            s.is("RATE -1", x.tax(sort, -1), -1);
            s.is("RATE 10", x.tax(sort, 10), -1);
            s.is("RATE 9", x.tax(sort, 9), 0);
            s.is("9 pence for 9 MILES", cost(x), 9 * 9 * 16);
            s.is("RATE 0", x.tax(sort, 0), 9);
            s.is("nothing", cost(x), 0);
            for (int other = 0; other < 4; other++) {
                x.tax(other, other == sort ? 1 : 9);
            }
            s.is("its own SORT's", cost(x), 9 * 16);
            x.stamp(0, false);
            s.is("not STAMPED", cost(x), 0);
        }
    }

    private static void fine(Sentences s) {
        s.terms("for one that is not, a FINE (0 .. 99 pence), if a watcher is there.");
        LeftShoes x = shod(0);
        s.is("FINE -1", x.tax(4, -1), -1);
        s.is("FINE 100", x.tax(4, 100), -1);
        s.is("FINE 99", x.tax(4, 99), 0);
        s.is("no watcher", cost(x), 0);
        x.road(8, 1, 1);
        s.is("a sixteenth of one", cost(x), 99);
        x.road(8, 1, 16);
        s.is("a whole one", cost(x), 99 * 16);
        x.stamp(0, true);
        s.is("STAMPED", cost(x), 0);
        x.stamp(0, false);
        s.is("FINE 0", x.tax(4, 0), 99);
        s.is("nothing", cost(x), 0);
    }

    private static void zeroAtFirst(Sentences s) {
        s.terms("All RATES, the FINE are 0 at first.");
        LeftShoes x = new LeftShoes();
        for (int what = 0; what < 5; what++) {
            s.is("tax(" + what + ", 5)", x.tax(what, 5), 0);
        }
    }

    private static void tax(Sentences s) {
        s.promise(8, "RATE of a SORT (0 .. 3), the FINE (4), the taxed FOOT (5): what it was.");
        LeftShoes x = new LeftShoes();
        int[] most = {9, 9, 9, 9, 99, 1};
        for (int what = 0; what < 6; what++) {
            s.is("most of " + what, x.tax(what, most[what]), 0);
        }
        for (int what = 0; what < 6; what++) {
            s.is("least of " + what, x.tax(what, 0), most[what]);
            s.is("it was 0: " + what, x.tax(what, 1), 0);
        }

        s.promise(8, "BAD.");
        for (int what = 0; what < 6; what++) {
            int which = what;
            s.refused("too small for " + what, -1, y -> y.tax(which, -1));
            s.refused("too large for " + what, -1, y -> y.tax(which, most[which] + 1));
            s.refused("MIN for " + what, -1, y -> y.tax(which, MIN));
            s.refused("MAX for " + what, -1, y -> y.tax(which, MAX));
        }
        s.refused("what too small", -1, y -> y.tax(-1, 0));
        s.refused("what too large", -1, y -> y.tax(6, 0));
        s.refused("what MIN", -1, y -> y.tax(MIN, 0));
    }

    private static void miles(Sentences s) {
        s.terms("THE ROAD: MILES 0 .. 8,");
        LeftShoes x = new LeftShoes();
        s.is("-1", x.road(-1, 0, 0), -1);
        s.is("0", x.road(0, 0, 1), 0);
        s.is("8", x.road(8, 0, 2), 0);
        s.is("9", x.road(9, 0, 0), -1);
        s.is("on 0", x.minutes(3, 0, -1, -1), 33);
        s.is("on 7", x.minutes(3, 7, -1, -1), 30);
        s.is("on 8", x.minutes(3, 8, -1, -1), 36);
        s.is("on 9", x.minutes(3, 9, -1, -1), -1);
        s.is("on -1", x.minutes(3, -1, -1, -1), -1);

        s.terms("each with MUD (0 .. 9),");
        LeftShoes y = new LeftShoes();
        for (int mile = 0; mile < 9; mile++) {
            s.is("-1", y.road(mile, 0, -1), -1);
            s.is("9", y.road(mile, 0, 9), 0);
            s.is("10", y.road(mile, 0, 10), -1);
            s.is("0", y.road(mile, 0, 0), 9);
        }

        s.terms("WATCHED by so many sixteenths (0 .. 16); 0 at first.");
        LeftShoes z = new LeftShoes();
        for (int mile = 0; mile < 9; mile++) {
            s.is("MUD at first", z.road(mile, 0, 1), 0);
            s.is("-1", z.road(mile, 1, -1), -1);
            s.is("WATCHED at first; 16", z.road(mile, 1, 16), 0);
            s.is("17", z.road(mile, 1, 17), -1);
            s.is("0", z.road(mile, 1, 0), 16);
        }
    }

    private static void road(Sentences s) {
        s.promise(9, "MUD (0), WATCHED (1) of a MILE: what it was.");
        LeftShoes x = new LeftShoes();
        for (int mile = 0; mile < 9; mile++) {
            x.road(mile, 0, mile);
            x.road(mile, 1, 16 - mile);
        }
        for (int mile = 0; mile < 9; mile++) {
            s.is("MUD of " + mile, x.road(mile, 0, 9), mile);
            s.is("WATCHED of " + mile, x.road(mile, 1, 0), 16 - mile);
        }

        s.promise(9, "BAD.");
        s.refused("mile too small", -1, y -> y.road(-1, 0, 0));
        s.refused("mile too large", -1, y -> y.road(9, 1, 0));
        s.refused("what too small", -1, y -> y.road(1, -1, 0));
        s.refused("what too large", -1, y -> y.road(1, 2, 0));
        s.refused("MUD too small", -1, y -> y.road(1, 0, -1));
        s.refused("MUD too large", -1, y -> y.road(1, 0, 10));
        s.refused("WATCHED too small", -1, y -> y.road(1, 1, -1));
        s.refused("WATCHED too large", -1, y -> y.road(1, 1, 17));
        s.refused("extremes", -1, y -> y.road(MIN, MAX, MIN));
        s.refused("MUD MAX", -1, y -> y.road(0, 0, MAX));
        s.refused("WATCHED MIN", -1, y -> y.road(0, 1, MIN));
    }

    private static void type(Sentences s) {
        s.promise(10, "The n lowest bytes (1 .. 8) of w,");
        LeftShoes x = new LeftShoes();
        s.is("one of w, whose others are no bytes for THE TAPE", x.type(0xFF00_1F7F_80FF_0070L, 1), 1);
        s.is("eight of w", x.type(0x3920_6636_2020_2037L, 8), 9);
        s.is("a 7 is the last of them", x.taxes(), -28);
        x.type('p', 1);
        x.type(0x3920_6636_2020_2020L, 8);
        s.is("a blank is", x.taxes(), 1);
        s.is("RATE", x.tax(0, 0), 9);
        s.is("FINE", x.tax(4, 0), 6);

        s.promise(10, "of these the highest first,");
        LeftShoes y = new LeftShoes();
        y.type(('p' << 8) | '4', 2);
        s.is("p4", y.taxes(), 1);
        y.type(('4' << 8) | 'p', 2);
        s.is("4p", y.taxes(), -20);

        s.promise(10, "come behind THE TAPE: how many it has.");
        LeftShoes z = new LeftShoes();
        int has = 0;
        for (int n = 1; n <= 8; n++) {
            has += n;
            s.is("and " + n, z.type(Text.EIGHT_BLANKS, n), has);
        }
        z.type('s', 1);
        z.type('3', 1);
        s.is("behind 36 blanks", z.taxes(), 1);
        s.is("RATE", z.tax(1, 0), 3);
    }

    private static void typeRefused(Sentences s) {
        s.promise(10, "BAD: n, a byte not 32 .. 126;");
        s.refused("n 0", -1, x -> x.type(' ', 0));
        s.refused("n -1", -1, x -> x.type(' ', -1));
        s.refused("n 9", -1, x -> x.type(Text.EIGHT_BLANKS, 9));
        s.refused("n MIN", -1, x -> x.type(Text.EIGHT_BLANKS, MIN));
        s.refused("n MAX", -1, x -> x.type(Text.EIGHT_BLANKS, MAX));
        int[] others = {0, 10, 31, 127, 128, 160, 255};
        for (int other : others) {
            for (int place = 0; place < 8; place++) {
                long w = Text.EIGHT_BLANKS & ~(0xFFL << (8 * place)) | (long) other << (8 * place);
                s.refused("byte " + other + " at " + place, -1, x -> x.type(w, 8));
            }
        }
        for (int place = 0; place < 8; place++) {
            LeftShoes x = new LeftShoes();
            s.is("byte 126", x.type(Text.EIGHT_BLANKS | 126L << (8 * place), 8), 8);
            s.is("byte 32", x.type(Text.EIGHT_BLANKS, 8), 16);
        }
    }

    private static void typeFull(Sentences s) {
        s.promise(10, "FULL: 60.");
        for (int n = 1; n <= 8; n++) {
            LeftShoes x = new LeftShoes();
            Text.put(x, "p5" + " ".repeat(58 - n));
            s.is(n + " make 60", x.type(Text.EIGHT_BLANKS, n), 60);
            LeftShoes y = new LeftShoes();
            Text.put(y, "p5" + " ".repeat(59 - n));
            s.is(n + " would make 61", y.type(Text.EIGHT_BLANKS | 126, n), -3);
            s.is("one less makes 60", n == 1 ? 60 : y.type(Text.EIGHT_BLANKS, n - 1), 60);
            s.is("of what was typed alone", y.taxes(), 1);
        }
        s.refusedByFull("one", -3, x -> x.type('1', 1));
        s.refusedByFull("eight", -3, x -> x.type(Text.EIGHT_BLANKS, 8));
    }
}
