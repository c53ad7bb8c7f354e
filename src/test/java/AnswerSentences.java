/** Sentences of answers below 0, and of what each of the promises shares. */
final class AnswerSentences {
    private AnswerSentences() {
    }

    static void all(Sentences s) {
        calls(s);
        badAhead(s);
        firstThatACallNames(s);
        numbers(s);
        machine(s);
        noItemTaken(s);
        changesNothing(s);
        shared(s);
    }

    private static void calls(Sentences s) {
        s.terms("An object is used for at most 512 calls after it has been made;");
        LeftShoes x = new LeftShoes();
        x.person(0, 0);
        x.shoe(0, 1, 0, 99);
        for (int k = 3; k < 512; k++) {
            s.is("call " + k, x.cheapest(0, -1, 0, -1, 999, k % 11 - 2), k % 11 == 0 ? 320 : k % 11 == 1 ? 0
                    : "223223233".charAt(k % 11 - 2) - '0');
        }
        s.is("the 512th call", x.go(0, -1, 0, -1, 999), 0);
    }

    private static void badAhead(Sentences s) {
        s.terms("Answers below 0, of several BAD ahead of all others,");
        s.refusedByFull("person: BAD, FULL", -1, x -> x.person(10000, 0));
        s.refusedByFull("shoe: BAD, FULL", -1, x -> x.shoe(5, 0, 0, 0));
        s.refusedByFull("buyer: BAD, FULL", -1, x -> x.buyer(1, 0));
        s.refusedByFull("type: BAD, FULL", -1, x -> x.type(127, 1));
        s.refusedByFull("type: BAD by n, FULL", -1, x -> x.type(Text.EIGHT_BLANKS, 9));
        s.refused("cheapest: BAD by what, NONE", -1, x -> x.cheapest(0, 0, 1, -1, 1, 9));
        s.refused("go: BAD, NONE", -1, x -> x.go(3, 5, 1, -1, 1));
        s.refused("go: BAD, NOT", -1, x -> x.go(0, 0, 1, 1, 217));
        s.refused("unseen: BAD by part, NONE", -1, x -> x.unseen(0, 3, 2));
        s.refused("paths: BAD, NONE", -1, x -> x.paths(3, 3));
        s.refused("prints: BAD by what, NULL", -1, x -> x.prints(3, 2, 0, 1, 0, 2));
        s.refused("prints: BAD by n, CAST", -1, x -> x.prints(0, 1, 0, 13, 0, 0));
        s.refused("prints: BAD by person, INDEX", -1, x -> x.prints(0, 2, 6, 1, 4, 0));
        s.refused("prints: BAD by person, NOT", -1, x -> x.prints(0, 2, 4, 1, 4, 1));
        s.refused("odds: BAD by part, NULL", -1, x -> x.odds(3, 2, 0, 1, 0, 2));
        s.refused("odds: BAD by n, CAST", -1, x -> x.odds(0, 0, 0, 0, 0, 0));
        s.refused("odds: BAD by person, INDEX", -1, x -> x.odds(0, 2, -1, 1, -1, 0));
        s.refused("odds: BAD by part, NOT", -1, x -> x.odds(0, 2, 4, 1, 0, -1));
        s.refused("odds: BAD by part, NONE", -1, x -> x.odds(0, 2, 3, 1, 0, 2));
        s.refused("book: BAD by n, NULL", -1, x -> x.book(3, 2, 0, 0));
        s.refused("book: BAD by n, CAST, INDEX", -1, x -> x.book(0, 1, 0, 13));
        s.refused("sheet: BAD by lane, SIZE", -1, x -> x.sheet(0, 3, -1));
        s.refused("sheet: BAD by sheet, SIZE", -1, x -> x.sheet(4, 0, -1));
        s.refused("item: BAD by lane, NULL", -1, x -> x.item(3, 3, 0, 0));
        s.refused("item: BAD by lane, INDEX", -1, x -> x.item(0, -1, 5, 0));
        s.refused("copy: BAD by to, NULL", -1, x -> x.copy(3, 0, 4, 0, 1));
        s.refused("copy: BAD by from, INDEX", -1, x -> x.copy(-1, -1, 0, 0, 1));
    }

    private static void firstThatACallNames(Sentences s) {
        s.terms("then the first that a call names:");
        s.refused("go: NONE, not NOT", -4, x -> x.go(0, 0, 1, -1, 216));
        s.refused("prints: NULL, not INDEX", -11, x -> x.prints(3, 2, -1, 1, 0, 0));
        s.refused("prints: CAST, not INDEX", -12, x -> x.prints(0, 1, 9, 1, 0, 0));
        s.refused("prints: INDEX, not NOT", -13, x -> x.prints(0, 2, 4, 2, 0, 0));
        s.refused("odds: CAST, not NOT", -12, x -> x.odds(0, 0, 4, 1, 0, 0));
        s.refused("odds: INDEX, not NOT", -13, x -> x.odds(0, 2, 3, 3, 0, 0));
        s.refused("odds: NOT, not NONE", -2, x -> x.odds(0, 2, 3, 2, 0, 0));
        s.refused("book: NULL, not INDEX", -11, x -> x.book(3, 2, -1, 1));
        s.refused("book: CAST, not INDEX", -12, x -> x.book(0, 0, 4, 1));
        s.refused("book: INDEX, not NONE", -13, x -> x.book(0, 2, 0, 3));
        s.refused("item: NULL, not INDEX", -11, x -> x.item(3, 2, -1, 1));
        s.refused("item: CAST, not INDEX", -12, x -> x.item(1, 2, 3, 1));
        s.refused("copy: NULL, not CAST, INDEX", -11, x -> x.copy(0, 6, 3, 0, 1));
        s.refused("copy: CAST, not INDEX", -12, x -> x.copy(0, 6, 1, 0, -1));
    }

    private static void numbers(Sentences s) {
        s.terms("BAD -1 (a number is not as told, there is no such thing),");
        s.is("BAD", LeftShoes.BAD, -1);
        s.refused("a number is not as told", LeftShoes.BAD, x -> x.person(-1, 0));
        s.refused("there is no such thing", LeftShoes.BAD, x -> x.told(7, 0));

        s.terms("NOT -2 (as told), FULL -3, NONE -4 (as told),");
        s.is("NOT", LeftShoes.NOT, -2);
        s.is("FULL", LeftShoes.FULL, -3);
        s.is("NONE", LeftShoes.NONE, -4);
        s.refused("the PURSE has not so much", LeftShoes.NOT, x -> x.go(0, 0, 1, -1, 217));
        s.refusedByFull("no room", LeftShoes.FULL, x -> x.person(0, 0));
        s.refused("there is no way", LeftShoes.NONE, x -> x.unseen(0, 3, 0));

        s.terms("CAST -12 (of SHEETS another LANE);");
        s.is("CAST", LeftShoes.CAST, -12);
        for (int lane = 0; lane < 3; lane++) {
            int asLane = lane;
            s.tells("ints as lane " + lane, lane == 2 ? 0 : -12, x -> x.prints(0, asLane, 0, 1, 1, 0));
            s.tells("shorts as lane " + lane, lane == 1 ? 1 : -12, x -> x.prints(1, asLane, 0, 1, 1, 0));
            s.tells("bytes as lane " + lane, lane == 0 ? -13 : -12, x -> x.prints(2, asLane, 0, 1, 1, 0));
        }
    }

    private static void machine(Sentences s) {
        s.terms("what the machine finds: NULL -11, INDEX -13, SIZE -14");
        s.is("NULL", LeftShoes.NULL, -11);
        s.is("INDEX", LeftShoes.INDEX, -13);
        s.is("SIZE", LeftShoes.SIZE, -14);
        s.refused("nothing", LeftShoes.NULL, x -> x.drop(3));
        s.refused("no such item", LeftShoes.INDEX, x -> x.item(0, 2, 5, 0));
        s.refused("a row of less than nothing", LeftShoes.SIZE, x -> x.sheet(0, 0, -1));

        s.terms("(NULL, CAST, INDEX, SIZE in this order;");
        s.refused("NULL ahead of CAST: from", -11, x -> x.copy(3, 0, 1, 0, 1));
        s.refused("NULL ahead of CAST: to", -11, x -> x.copy(1, 0, 3, 0, 1));
        s.refused("NULL ahead of INDEX: from", -11, x -> x.copy(3, -1, 1, 4, -1));
        s.refused("NULL ahead of INDEX: to", -11, x -> x.copy(1, 4, 3, -1, -1));
        s.refused("CAST ahead of INDEX: item", -12, x -> x.item(0, 0, -1, 0));
        s.refused("CAST ahead of INDEX: prints", -12, x -> x.prints(1, 0, 3, 1, 0, 0));
        s.refused("CAST ahead of INDEX: odds", -12, x -> x.odds(1, 2, -1, 1, 0, 0));
        s.refused("CAST ahead of INDEX: book", -12, x -> x.book(1, 2, 0, 12));
        s.refused("CAST ahead of INDEX: copy", -12, x -> x.copy(1, -1, 0, 0, 1));
    }

    private static void noItemTaken(Sentences s) {
        s.terms("INDEX also where no item is taken, if i, j is below 0, or above how many there are).");
        s.refused("i below 0", -13, x -> x.copy(0, -1, 0, 0, 0));
        s.refused("j below 0", -13, x -> x.copy(0, 0, 0, -1, 0));
        s.refused("i above 5", -13, x -> x.copy(0, 6, 0, 0, 0));
        s.refused("j above 5", -13, x -> x.copy(0, 0, 0, 6, 0));
        s.refused("i above 0", -13, x -> x.copy(2, 1, 2, 0, 0));
        s.refused("j above 0", -13, x -> x.copy(2, 0, 2, 1, 0));
        s.refused("i far below 0", -13, x -> x.copy(0, Integer.MIN_VALUE, 0, 0, 0));
        s.refused("j far above 5", -13, x -> x.copy(0, 0, 0, Integer.MAX_VALUE, 0));
        s.tells("i, j are 5, as many as there are", 0, x -> x.copy(0, 5, 0, 5, 0));
        s.tells("i, j are 0 of none", 0, x -> x.copy(2, 0, 2, 0, 0));
    }

    private static void changesNothing(Sentences s) {
        s.terms("What is refused changes nothing, but as told.");
        s.refused("NOT", -2, x -> x.go(0, 0, 1, -1, 217));
        s.refused("NONE", -4, x -> x.go(0, 0, 1, -1, 216));
        s.refused("NULL", -11, x -> x.item(3, 0, 0, 7));
        s.refused("CAST", -12, x -> x.copy(0, 0, 1, 0, 1));
        s.refused("INDEX, though three could be copied", -13, x -> x.copy(1, 0, 1, 1, 3));
        s.refused("SIZE", -14, x -> x.sheet(0, 0, -5));
        s.refusedByFull("FULL", -3, x -> x.type(0x6633L, 2));
        LeftShoes x = new LeftShoes();
        s.is("but a FAULT, as told,", Text.taxes(x, "p1p"), -22);
        s.is("empties THE TAPE", x.type(' ', 1), 1);
        s.is("and no more", x.tax(0, 0), 0);
    }

    private static void shared(Sentences s) {
        s.terms("Sets are bits.");
        LeftShoes x = new LeftShoes();
        for (int k = 0; k < 5; k++) {
            x.person(0, 0);
        }
        x.shoe(0, 0, 0, 1);
        x.shoe(4, 1, 0, 1);
        for (int set = 0; set < 32; set++) {
            s.is("0 and 4 in " + set, x.brothers(set, 0), set % 2 == 1 && set >= 16 ? 1 : 0);
        }

        s.terms("Divisions are cut.");
        int[] watched = {0, 1, 15, 16};
        int[] pence = {0, 0, 0, 1};
        for (int k = 0; k < 4; k++) {
            s.is(watched[k] + " sixteenths", fined(watched[k]).go(0, 0, 1, -1, 180), pence[k]);
        }

        s.terms("Fractions are in lowest terms, told above (part 0) and below (part 1).");
        LeftShoes y = new LeftShoes();
        int[][] want = {{1, 1}, {15, 16}, {7, 8}, {13, 16}, {3, 4}, {11, 16}, {5, 8}, {9, 16}, {1, 2}, {7, 16}, {3, 8},
            {5, 16}, {1, 4}, {3, 16}, {1, 8}, {1, 16}};
        for (int v = 0; v < 16; v++) {
            y.path(0, 1, v);
            s.is("above, by " + v, y.unseen(0, 1, 0), want[v][0]);
            s.is("below, by " + v, y.unseen(0, 1, 1), want[v][1]);
        }
    }

    /** One who has shoes for nine miles, a penny of FINE on the first. */
    private static LeftShoes fined(int watched) {
        LeftShoes x = new LeftShoes();
        x.person(9, 0);
        x.shoe(0, 0, 0, 9);
        x.shoe(0, 1, 0, 9);
        x.tax(4, 1);
        x.road(0, 1, watched);
        return x;
    }
}
