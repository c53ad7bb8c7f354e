/** Sentences of people, shoes, how many there are: promises 1 to 7, 13. */
final class PeopleSentences {
    private static final int MIN = Integer.MIN_VALUE, MAX = Integer.MAX_VALUE;

    private PeopleSentences() {
    }

    static void all(Sentences s) {
        newObject(s);
        peopleAsTheyCome(s);
        purses(s);
        feet(s);
        personRefused(s);
        shoesAsTheyCome(s);
        shoeWords(s);
        soles(s);
        notStamped(s);
        oneOfPeoples(s);
        shoeRefused(s);
        told(s);
        stamp(s);
        give(s);
        of(s);
        counts(s);
    }

    private static void newObject(Sentences s) {
        s.promise(1, "Nobody, no shoe.");
        LeftShoes x = new LeftShoes();
        s.is("PEOPLE", x.count(0), 0);
        s.is("SHOES", x.count(1), 0);
        s.is("person 0", x.of(0, 0), -1);
        s.is("shoe 0", x.told(0, 0), -1);
        s.is("nobody's shoe", x.shoe(0, 0, 0, 0), -1);
    }

    /** So many with both FEET, without pence. */
    private static LeftShoes people(int many) {
        LeftShoes x = new LeftShoes();
        for (int k = 0; k < many; k++) {
            x.person(0, 0);
        }
        return x;
    }

    private static void peopleAsTheyCome(Sentences s) {
        s.terms("PEOPLE 0 .. 4, as they come,");
        LeftShoes x = new LeftShoes();
        for (int k = 0; k < 5; k++) {
            s.is("not there yet", x.of(k, 0), -1);
            s.is("person", x.person(10 + k, k % 3), k);
            s.is("there", x.of(k, 0), 10 + k);
        }
        s.is("5", x.of(5, 0), -1);
        s.is("-1", x.of(-1, 0), -1);

        s.promise(2, "One of PEOPLE: the number.");
        LeftShoes y = new LeftShoes();
        s.is("the first", y.person(3, 1), 0);
        s.is("the second, alike", y.person(3, 1), 1);
    }

    private static void purses(Sentences s) {
        s.terms("have a PURSE (0 .. 9999 pence)");
        LeftShoes x = new LeftShoes();
        s.is("-1", x.person(-1, 0), -1);
        s.is("0", x.person(0, 0), 0);
        s.is("9999", x.person(9999, 0), 1);
        s.is("10000", x.person(10000, 0), -1);
        s.is("MIN", x.person(MIN, 0), -1);
        s.is("MAX", x.person(MAX, 0), -1);
        s.is("of 0", x.of(0, 0), 0);
        s.is("of 9999", x.of(1, 0), 9999);
    }

    private static void feet(Sentences s) {
        s.terms("and FEET (0 both, 1 the left one alone, 2 the right one alone).");
        LeftShoes x = new LeftShoes();
        s.is("-1", x.person(0, -1), -1);
        for (int feet = 0; feet < 3; feet++) {
            s.is("FEET", x.person(0, feet), feet);
            s.is("of", x.of(feet, 1), feet);
        }
        s.is("3", x.person(0, 3), -1);
        s.is("MIN", x.person(0, MIN), -1);
        s.is("MAX", x.person(0, MAX), -1);
        County.sheet(x, 0, 0, 0, 1);
        int[][] barePrints = {{1, 1}, {1, 0}, {0, 1}};
        for (int feet = 0; feet < 3; feet++) {
            s.is("a bare left one by " + feet, x.prints(0, 0, 0, 1, feet, 0), barePrints[feet][0]);
            s.is("a bare right one by " + feet, x.prints(0, 0, 1, 1, feet, 0), barePrints[feet][1]);
        }
    }

    private static void personRefused(Sentences s) {
        s.promise(2, "BAD;");
        s.refused("purse too small", -1, x -> x.person(-1, 0));
        s.refused("purse too large", -1, x -> x.person(10000, 0));
        s.refused("feet too small", -1, x -> x.person(0, -1));
        s.refused("feet too large", -1, x -> x.person(0, 3));

        s.promise(2, "FULL: 5.");
        LeftShoes four = people(4);
        s.is("the fifth", four.person(9, 1), 4);
        s.is("the sixth", four.person(9, 1), -3);
        s.is("PEOPLE", four.count(0), 5);
        s.refusedByFull("a sixth", -3, x -> x.person(9, 1));
    }

    private static void shoesAsTheyCome(Sentences s) {
        s.terms("SHOES 0 .. 15, as they come,");
        LeftShoes x = people(3);
        for (int k = 0; k < 16; k++) {
            s.is("not there yet", x.told(k, 2), -1);
            s.is("shoe", x.shoe(k % 3, k % 2, k % 4, 20 + k), k);
            s.is("there", x.told(k, 2), 20 + k);
        }
        s.is("16", x.told(16, 2), -1);
        s.is("-1", x.told(-1, 2), -1);

        s.promise(3, "A SHOE: its number.");
        LeftShoes y = people(2);
        s.is("the first", y.shoe(1, 0, 0, 0), 0);
        s.is("the second, alike", y.shoe(1, 0, 0, 0), 1);
    }

    private static void shoeWords(Sentences s) {
        s.terms("are for a FOOT (0 left, 1 right),");
        LeftShoes x = people(1);
        s.is("foot -1", x.shoe(0, -1, 0, 0), -1);
        s.is("left", x.shoe(0, 0, 0, 0), 0);
        s.is("right", x.shoe(0, 1, 0, 0), 1);
        s.is("foot 2", x.shoe(0, 2, 0, 0), -1);
        s.is("a left", x.of(0, 2), 1);
        s.is("a right", x.of(0, 3), 1);
        s.is("told 0", x.told(0, 0), 0);
        s.is("told 1", x.told(1, 0), 1);

        s.terms("of a SORT (0 PLAIN, 1 STOUT, 2 CLOG, 3 SILK),");
        LeftShoes y = people(1);
        s.is("sort -1", y.shoe(0, 1, -1, 0), -1);
        int[] hop = {40, 39, 41, 40};
        // Five HOPS take 10 of 19 SOLES, of SILK 20.
        int[] cost = {0, 0, 0, -4};
        for (int sort = 0; sort < 4; sort++) {
            s.is("sort", y.shoe(0, 1, sort, 19), sort);
            s.is("told", y.told(sort, 1), sort);
            s.is("MINUTES", y.minutes(2, 0, sort, -1), hop[sort]);
            s.is("COST", y.cheapest(0, -1, sort, -1, 999, -1), cost[sort]);
        }
        s.is("sort 4", y.shoe(0, 1, 4, 0), -1);
    }

    private static void soles(Sentences s) {
        s.terms("have SOLES (0 .. 99 MILES left),");
        LeftShoes x = people(1);
        s.is("-1", x.shoe(0, 0, 0, -1), -1);
        s.is("0", x.shoe(0, 0, 0, 0), 0);
        s.is("99", x.shoe(0, 0, 0, 99), 1);
        s.is("100", x.shoe(0, 0, 0, 100), -1);
        s.is("MIN", x.shoe(0, 0, 0, MIN), -1);
        s.is("MAX", x.shoe(0, 0, 0, MAX), -1);
        s.is("told 0", x.told(0, 2), 0);
        s.is("told 99", x.told(1, 2), 99);
    }

    private static void notStamped(Sentences s) {
        s.terms("are STAMPED, or not (not at first),");
        LeftShoes x = people(1);
        for (int k = 0; k < 16; k++) {
            x.shoe(0, k % 2, k % 4, k);
            s.is("not at first", x.told(k, 3), 0);
        }
        s.is("none", x.count(2), 0);
        x.stamp(4, true);
        s.is("one is", x.told(4, 3), 1);
        LeftShoes y = people(1);
        y.image();
        y.shoe(0, 0, 0, 0);
        y.stamp(0, true);
        y.restore();
        s.is("a new one where a STAMPED one was", y.shoe(0, 0, 0, 0), 0);
        s.is("is not at first", y.told(0, 3), 0);
    }

    private static void oneOfPeoples(Sentences s) {
        s.terms("and one of PEOPLE's.");
        LeftShoes x = people(5);
        for (int k = 0; k < 5; k++) {
            x.shoe(4 - k, 0, 0, 0);
            s.is("whose", x.told(k, 4), 4 - k);
        }
        s.is("nobody's", x.shoe(5, 0, 0, 0), -1);
        LeftShoes y = people(2);
        s.is("the third one's of two", y.shoe(2, 0, 0, 0), -1);
    }

    private static void shoeRefused(Sentences s) {
        s.promise(3, "BAD;");
        s.refused("owner too small", -1, x -> x.shoe(-1, 0, 0, 0));
        s.refused("owner not there", -1, x -> x.shoe(4, 0, 0, 0));
        s.refused("owner MAX", -1, x -> x.shoe(MAX, 0, 0, 0));
        s.refused("foot too small", -1, x -> x.shoe(0, -1, 0, 0));
        s.refused("foot too large", -1, x -> x.shoe(0, 2, 0, 0));
        s.refused("sort too small", -1, x -> x.shoe(0, 0, -1, 0));
        s.refused("sort too large", -1, x -> x.shoe(0, 0, 4, 0));
        s.refused("soles too few", -1, x -> x.shoe(0, 0, 0, -1));
        s.refused("soles too many", -1, x -> x.shoe(0, 0, 0, 100));

        s.promise(3, "FULL: 16.");
        LeftShoes x = people(1);
        for (int k = 0; k < 15; k++) {
            x.shoe(0, 0, 0, 1);
        }
        s.is("the sixteenth", x.shoe(0, 1, 1, 1), 15);
        s.is("the seventeenth", x.shoe(0, 1, 1, 1), -3);
        s.is("SHOES", x.count(1), 16);
        s.refusedByFull("a seventeenth", -3, y -> y.shoe(0, 1, 1, 1));
    }

    private static void told(Sentences s) {
        s.promise(4, "Of a SHOE: 0 FOOT, 1 SORT, 2 SOLES, 3 whether STAMPED (1, 0), 4 whose.");
        LeftShoes x = people(5);
        x.shoe(4, 1, 3, 99);
        x.shoe(0, 0, 0, 0);
        x.stamp(0, true);
        int[][] want = {{1, 3, 99, 1, 4}, {0, 0, 0, 0, 0}};
        for (int shoe = 0; shoe < 2; shoe++) {
            for (int what = 0; what < 5; what++) {
                s.is("told(" + shoe + ", " + what + ")", x.told(shoe, what), want[shoe][what]);
            }
        }

        s.promise(4, "BAD.");
        s.refused("shoe too small", -1, y -> y.told(-1, 0));
        s.refused("shoe not there", -1, y -> y.told(7, 0));
        s.refused("shoe 16", -1, y -> y.told(16, 0));
        s.refused("what too small", -1, y -> y.told(0, -1));
        s.refused("what too large", -1, y -> y.told(0, 5));
        s.refusedByFull("shoe 16 of 16", -1, y -> y.told(16, 4));
        s.refusedByFull("extremes", -1, y -> y.told(MIN, MAX));
    }

    private static void stamp(Sentences s) {
        s.promise(5, "A SHOE is STAMPED, or not: whether it was.");
        LeftShoes x = people(1);
        x.shoe(0, 0, 0, 0);
        x.shoe(0, 0, 0, 0);
        s.is("not, stays not", x.stamp(0, false), 0);
        s.is("was not", x.stamp(0, true), 0);
        s.is("was, stays", x.stamp(0, true), 1);
        s.is("is", x.told(0, 3), 1);
        s.is("the other one is not", x.told(1, 3), 0);
        s.is("was", x.stamp(0, false), 1);
        s.is("is not", x.told(0, 3), 0);

        s.promise(5, "BAD.");
        s.refused("shoe too small", -1, y -> y.stamp(-1, true));
        s.refused("shoe not there", -1, y -> y.stamp(7, true));
        s.refusedByFull("shoe 16", -1, y -> y.stamp(16, true));
        s.refusedByFull("MIN", -1, y -> y.stamp(MIN, false));
    }

    private static void give(Sentences s) {
        s.promise(6, "A SHOE becomes another one's of PEOPLE: whose it was.");
        LeftShoes x = people(5);
        x.shoe(0, 0, 0, 0);
        x.shoe(0, 0, 0, 0);
        int[] to = {4, 1, 1, 0};
        int[] was = {0, 4, 1, 1};
        for (int k = 0; k < 4; k++) {
            s.is("to " + to[k], x.give(0, to[k]), was[k]);
            s.is("it is his", x.told(0, 4), to[k]);
            s.is("the other one stays", x.told(1, 4), 0);
        }
        x.shoe(2, 1, 3, 77);
        x.stamp(2, true);
        x.give(2, 3);
        int[] stays = {1, 3, 77, 1, 3};
        for (int what = 0; what < 5; what++) {
            s.is("told(2, " + what + ") of a gift", x.told(2, what), stays[what]);
        }

        s.promise(6, "BAD.");
        s.refused("shoe too small", -1, y -> y.give(-1, 0));
        s.refused("shoe not there", -1, y -> y.give(7, 1));
        s.refused("to too small", -1, y -> y.give(0, -1));
        s.refused("to not there", -1, y -> y.give(0, 4));
        s.refusedByFull("shoe 16", -1, y -> y.give(16, 1));
        s.refusedByFull("to 5", -1, y -> y.give(0, 5));
        s.refusedByFull("extremes", -1, y -> y.give(MAX, MIN));
    }

    private static void of(Sentences s) {
        s.promise(7, "Of one of PEOPLE: 0 PURSE, 1 FEET, 2 how many lefts, 3 rights.");
        LeftShoes x = new LeftShoes();
        x.person(9999, 2);
        x.person(0, 0);
        x.person(7, 1);
        for (int k = 0; k < 16; k++) {
            x.shoe(k < 13 ? 0 : 1, k < 9 ? 0 : 1, 0, 0);
        }
        int[][] want = {{9999, 2, 9, 4}, {0, 0, 0, 3}, {7, 1, 0, 0}};
        for (int person = 0; person < 3; person++) {
            for (int what = 0; what < 4; what++) {
                s.is("of(" + person + ", " + what + ")", x.of(person, what), want[person][what]);
            }
        }

        s.promise(7, "BAD.");
        s.refused("person too small", -1, y -> y.of(-1, 0));
        s.refused("person not there", -1, y -> y.of(4, 0));
        s.refused("what too small", -1, y -> y.of(0, -1));
        s.refused("what too large", -1, y -> y.of(0, 4));
        s.refusedByFull("person 5", -1, y -> y.of(5, 0));
        s.refusedByFull("extremes", -1, y -> y.of(MAX, MIN));
    }

    private static void counts(Sentences s) {
        s.promise(13, "How many: 0 PEOPLE, 1 SHOES, 2 STAMPED, 3 SOLES of all, 4 BUYERS, 5 PATHS.");
        LeftShoes x = new LeftShoes();
        counted(s, x, "nothing", 0, 0, 0, 0, 0, 0);
        for (int k = 0; k < 5; k++) {
            x.person(0, 0);
        }
        for (int k = 0; k < 16; k++) {
            x.shoe(k % 5, k % 2, k % 4, 99);
            x.stamp(k, true);
        }
        for (int k = 0; k < 6; k++) {
            x.buyer(1, 1);
        }
        for (int one = 0; one < 8; one++) {
            for (int other = 0; other < one; other++) {
                x.path(one, other, one);
            }
        }
        counted(s, x, "as many as can be", 5, 16, 16, 16 * 99, 6, 28);
        x.stamp(3, false);
        x.fair();
        x.path(6, 7, -1);
        counted(s, x, "less", 5, 16, 15, 16 * 99, 0, 27);

        s.promise(13, "BAD.");
        s.refused("what too small", -1, y -> y.count(-1));
        s.refused("what too large", -1, y -> y.count(6));
        s.refused("MIN", -1, y -> y.count(MIN));
        s.refused("MAX", -1, y -> y.count(MAX));
    }

    private static void counted(Sentences s, LeftShoes x, String when, int... want) {
        for (int what = 0; what < 6; what++) {
            s.is("count(" + what + "), " + when, x.count(what), want[what]);
        }
    }
}
