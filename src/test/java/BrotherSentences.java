/** Sentences of brothers, of images: promises 23 to 25. */
final class BrotherSentences {
    private static final int MIN = Integer.MIN_VALUE, MAX = Integer.MAX_VALUE;

    private BrotherSentences() {
    }

    static void all(Sentences s) {
        pairs(s);
        bothFeet(s);
        brothers(s);
        brothersRefused(s);
        image(s);
        restore(s);
        restoreNone(s);
    }

    private static LeftShoes people(int... feet) {
        LeftShoes x = new LeftShoes();
        for (int f : feet) {
            x.person(0, f);
        }
        return x;
    }

    private static void pairs(Sentences s) {
        s.terms("BROTHERS: of all SHOES of some of PEOPLE: PAIRS are as many as can be made "
                + "(of a left and a right one of like SORT, SOLES above 0): how many;");
        for (int left = 0; left < 4; left++) {
            for (int right = 0; right < 4; right++) {
                LeftShoes x = people(0, 0);
                County.shoes(x, new int[][] {{0, 0, left, 1}, {1, 1, right, 99}});
                s.is("SORTS " + left + ", " + right, x.brothers(3, 0), left == right ? 1 : 0);
                s.is("without the other one's", x.brothers(1, 0), 0);
                s.is("without his", x.brothers(2, 0), 0);
            }
        }
        LeftShoes y = people(0);
        County.shoes(y, new int[][] {{0, 0, 0, 1}, {0, 0, 0, 1}});
        s.is("two lefts", y.brothers(1, 0), 0);
        County.shoes(y, new int[][] {{0, 1, 0, 0}});
        s.is("a right one of SOLES 0", y.brothers(1, 0), 0);
        County.shoes(y, new int[][] {{0, 1, 0, 1}});
        s.is("one of SOLES 1", y.brothers(1, 0), 1);
        County.shoes(y, new int[][] {{0, 1, 0, 1}, {0, 1, 0, 1}});
        s.is("two lefts, three rights", y.brothers(1, 0), 2);
        County.shoes(y, new int[][] {{0, 0, 3, 1}, {0, 1, 3, 0}, {0, 0, 2, 0}, {0, 1, 2, 1}});
        s.is("but for SOLES there were four", y.brothers(1, 0), 2);
    }

    private static void bothFeet(Sentences s) {
        s.terms("and how many of these PEOPLE with both FEET can have one.");
        LeftShoes x = people(0, 1, 2, 0, 0);
        County.shoes(x, new int[][] {{1, 0, 0, 1}, {1, 1, 0, 1}, {1, 0, 1, 1}, {2, 1, 1, 1}});
        int[] sets = {1, 2, 3, 4, 6, 7, 8, 9, 10, 14, 15, 30, 31};
        int[] pairs = {0, 1, 1, 0, 2, 2, 0, 0, 1, 2, 2, 2, 2};
        int[] can = {0, 0, 1, 0, 0, 1, 0, 0, 1, 1, 2, 2, 2};
        for (int k = 0; k < sets.length; k++) {
            s.is("PAIRS of " + sets[k], x.brothers(sets[k], 0), pairs[k]);
            s.is("who can have one of " + sets[k], x.brothers(sets[k], 1), can[k]);
        }
    }

    private static void brothers(Sentences s) {
        s.promise(23, "BROTHERS, a set of PEOPLE: PAIRS (0), how many of them can have one (1).");
        LeftShoes x = new LeftShoes();
        s.is("of none, PAIRS", x.brothers(0, 0), 0);
        s.is("of none, who can", x.brothers(0, 1), 0);
        LeftShoes y = people(0, 0, 0, 0, 0);
        for (int k = 0; k < 16; k++) {
            y.shoe(k % 5, k / 8, 3, 1);
        }
        s.is("of all, PAIRS", y.brothers(31, 0), 8);
        s.is("of all, who can", y.brothers(31, 1), 5);
        s.is("of none of five", y.brothers(0, 0), 0);
        s.is("SHOES stay whose they were", y.told(0, 4), 0);
    }

    private static void brothersRefused(Sentences s) {
        s.promise(23, "BAD: also PEOPLE that are not there.");
        for (int many = 0; many < 5; many++) {
            LeftShoes x = people(new int[many]);
            s.is("all of " + many, x.brothers((1 << many) - 1, 0), 0);
            s.is("one more than " + many, x.brothers(1 << many, 0), -1);
            s.is("all and one more", x.brothers((2 << many) - 1, 1), -1);
            s.is("a sixth", x.brothers(32, 0), -1);
        }
        s.refused("4 of four", -1, x -> x.brothers(16, 0));
        s.refused("0 and 4", -1, x -> x.brothers(17, 1));
        s.refused("-1", -1, x -> x.brothers(-1, 0));
        s.refused("MIN", -1, x -> x.brothers(MIN, 1));
        s.refused("MAX", -1, x -> x.brothers(MAX, 0));
        s.refused("bit 31 and 0", -1, x -> x.brothers(MIN + 1, 0));
        s.refused("what too small", -1, x -> x.brothers(1, -1));
        s.refused("what too large", -1, x -> x.brothers(1, 2));
        s.refusedByFull("a sixth", -1, x -> x.brothers(32, 0));
        s.refusedByFull("bit 5 and all", -1, x -> x.brothers(63, 0));
    }

    private static void image(Sentences s) {
        s.promise(24, "All but SHEETS, THE TAPE is kept as an IMAGE: 1.");
        s.is("of a new one", new LeftShoes().image(), 1);
        LeftShoes x = County.rich();
        String before = County.seen(County.rich());
        s.is("image", x.image(), 1);
        // But for the IMAGE itself all is as it was; what is seen behind it is what was ahead of it.
        String behind = County.seen(x);
        s.holds("nothing else is changed", before.substring(0, before.indexOf("image"))
                .equals(behind.substring(0, behind.indexOf("image"))));
        LeftShoes y = new LeftShoes();
        y.image();
        y.person(1, 0);
        s.is("a second IMAGE", y.image(), 1);
        y.person(2, 0);
        y.restore();
        s.is("is kept, not the first", y.count(0), 1);
        notSheetsNorTape(s);
    }

    private static void notSheetsNorTape(Sentences s) {
        LeftShoes x = new LeftShoes();
        Text.put(x, "p5");
        County.sheet(x, 0, 1, 4);
        x.image();
        Text.put(x, "s6");
        x.drop(0);
        County.sheet(x, 1, 2, 7, 7);
        x.restore();
        s.is("not THE TAPE: it is p5s6", x.taxes(), 2);
        s.is("not SHEETS: one is dropped", x.drop(0), -11);
        s.is("not SHEETS: one is there", x.drop(1), 2);
        x.restore();
        s.is("THE TAX is", x.tax(0, 0), 0);
    }

    private static void restore(Sentences s) {
        s.promise(25, "All is as it was then: 1.");
        LeftShoes empty = new LeftShoes();
        empty.image();
        fill(empty);
        s.is("restore", empty.restore(), 1);
        s.holds("as a new one", County.now(empty).equals(County.now(new LeftShoes())));
        s.is("there is room again", empty.person(0, 0), 0);
        LeftShoes full = new LeftShoes();
        fill(full);
        full.image();
        full.tax(5, 0);
        s.is("pence of a PURSE, SOLES", full.go(4, -1, 6, -1, 999), 63);
        full.stamp(0, false);
        full.give(0, 0);
        full.tax(0, 0);
        full.tax(4, 0);
        full.road(8, 0, 0);
        full.road(8, 1, 0);
        full.path(0, 1, -1);
        full.path(0, 2, 3);
        full.fair();
        full.buyer(1, 2);
        s.is("restore", full.restore(), 1);
        LeftShoes same = new LeftShoes();
        fill(same);
        s.holds("as full as it was", County.now(full).equals(County.now(same)));
        s.is("again", full.restore(), 1);
        s.is("no room", full.person(0, 0), -3);
    }

    private static void fill(LeftShoes x) {
        for (int k = 0; k < 5; k++) {
            x.person(9999 - k, k % 3);
        }
        for (int k = 0; k < 16; k++) {
            x.shoe(k % 2 == 1 ? 0 : 4, k % 2, k % 4, 99 - k);
            x.stamp(k, k % 3 == 0);
        }
        for (int k = 0; k < 6; k++) {
            x.buyer(9 - k, 99 - k);
        }
        Text.taxes(x, "rp9s8c7k6f99");
        Text.roads(x, "9w16,8w15,7w14,6w13,5w12,4w11,3w10,2w9,1w8");
        x.path(0, 1, 15);
        x.path(6, 7, 0);
    }

    private static void restoreNone(Sentences s) {
        s.promise(25, "NONE: there is none.");
        s.is("of a new one", new LeftShoes().restore(), -4);
        LeftShoes x = new LeftShoes();
        x.person(1, 0);
        s.is("never made", x.restore(), -4);
        s.is("nothing is changed", x.count(0), 1);
        s.refusedByFull("never made", -4, y -> y.restore());
    }
}
