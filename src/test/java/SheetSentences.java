/** Sentences of sheets: promises 29 to 32. */
final class SheetSentences {
    private static final int MIN = Integer.MIN_VALUE, MAX = Integer.MAX_VALUE;

    private SheetSentences() {
    }

    static void all(Sentences s) {
        nothingAtFirst(s);
        sheet(s);
        sheetRefused(s);
        drop(s);
        item(s);
        lowestBits(s);
        itemRefused(s);
        copy(s);
        overlap(s);
        copyRefused(s);
    }

    /** Two, for whose PRINTS item 0 can be told from item 1. */
    private static LeftShoes readers() {
        LeftShoes x = new LeftShoes();
        x.person(0, 0);
        x.person(0, 1);
        return x;
    }

    /** Items of 0 and 1 alone. */
    private static void holds(Sentences s, LeftShoes x, int sheet, int lane, int... want) {
        for (int i = 0; i < want.length; i++) {
            s.is("sheet " + sheet + ", item " + i, x.prints(sheet, lane, i, 1, 1, 0), 1 - want[i]);
            s.is("sheet " + sheet + ", item " + i + " is 0 or 1", x.prints(sheet, lane, i, 1, 0, 0), 1);
        }
        s.is("sheet " + sheet + " has no more", x.prints(sheet, lane, want.length, 1, 0, 0), -13);
    }

    private static void nothingAtFirst(Sentences s) {
        s.terms("---- 4 sheets 0 .. 3: nothing (at first),");
        LeftShoes x = new LeftShoes();
        for (int sheet = 0; sheet < 4; sheet++) {
            s.is("drop(" + sheet + ")", x.drop(sheet), -11);
            for (int lane = 0; lane < 3; lane++) {
                s.is("item", x.item(sheet, lane, 0, 0), -11);
            }
            s.is("sheet", x.sheet(sheet, 0, 1), 1);
        }
        s.is("sheet 4", x.sheet(4, 0, 1), -1);
        s.is("sheet -1", x.sheet(-1, 0, 1), -1);

        s.terms("or a row of a LANE: 0 bytes, 1 shorts, 2 ints (all with a sign),");
        LeftShoes y = new LeftShoes();
        y.person(0, 0);
        y.shoe(0, 0, 0, 99);
        int[] values = {128, -128, 255, 127, 32768, -32768, 65535, 32767, MIN, MAX, -1};
        for (int lane = 0; lane < 3; lane++) {
            y.sheet(lane, lane, 2);
            for (int v : values) {
                y.item(lane, lane, 0, v);
                s.is(v + " is no PRINT in lane " + lane, y.prints(lane, lane, 0, 1, 0, 0),
                        lane == 0 && (v & 255) < 10 || lane == 1 && (v & 65535) < 10 ? 1 : -2);
            }
            for (int other = 0; other < 3; other++) {
                s.is("lane " + lane + " as " + other, y.item(lane, other, 0, 0), lane == other ? 1 : -12);
            }
        }
        s.is("lane 3", y.sheet(3, 3, 1), -1);
        s.is("lane -1", y.sheet(3, -1, 1), -1);

        s.terms("of 0 to 24 items.");
        LeftShoes z = new LeftShoes();
        s.is("-1", z.sheet(0, 0, -1), -14);
        s.is("0", z.sheet(0, 0, 0), 0);
        s.is("no item 0", z.item(0, 0, 0, 0), -13);
        s.is("24", z.sheet(0, 0, 24), 24);
        s.is("item 23", z.item(0, 0, 23, 0), 1);
        s.is("no item 24", z.item(0, 0, 24, 0), -13);
        s.is("25", z.sheet(0, 0, 25), -1);
    }

    private static void sheet(Sentences s) {
        s.promise(29, "A SHEET holds a new row of a LANE: n.");
        LeftShoes x = readers();
        for (int lane = 0; lane < 3; lane++) {
            for (int n = 0; n <= 24; n += 6) {
                s.is("sheet", x.sheet(3, lane, n), n);
                s.is("so many", x.drop(3), n);
            }
            County.sheet(x, 0, lane, 1, 1, 1);
            s.is("a new row", x.sheet(0, lane, 2), 2);
            holds(s, x, 0, lane, 0, 0);
            s.is("a longer one", x.sheet(0, lane, 4), 4);
            holds(s, x, 0, lane, 0, 0, 0, 0);
            County.sheet(x, 0, lane, 1, 1, 1);
            x.drop(0);
            s.is("where one was dropped", x.sheet(0, lane, 3), 3);
            holds(s, x, 0, lane, 0, 0, 0);
        }
    }

    private static void sheetRefused(Sentences s) {
        s.promise(29, "BAD: also n above 24;");
        s.refused("n 25", -1, x -> x.sheet(0, 2, 25));
        s.refused("n MAX", -1, x -> x.sheet(3, 2, MAX));
        s.refused("sheet too small", -1, x -> x.sheet(-1, 2, 1));
        s.refused("sheet too large", -1, x -> x.sheet(4, 2, 1));
        s.refused("lane too small", -1, x -> x.sheet(0, -1, 1));
        s.refused("lane too large", -1, x -> x.sheet(0, 3, 1));
        s.refused("extremes", -1, x -> x.sheet(MIN, MAX, MIN));

        s.promise(29, "SIZE: n below 0.");
        s.refused("n -1", -14, x -> x.sheet(0, 2, -1));
        s.refused("n MIN", -14, x -> x.sheet(0, 2, MIN));
        s.refused("n -1 where nothing is", -14, x -> x.sheet(3, 0, -1));
        LeftShoes y = new LeftShoes();
        s.is("n 0 is none", y.sheet(0, 0, 0), 0);
    }

    private static void drop(Sentences s) {
        s.promise(30, "A SHEET holds nothing: how many items it had.");
        LeftShoes x = new LeftShoes();
        for (int n = 0; n <= 24; n++) {
            x.sheet(1, n % 3, n);
            s.is("drop", x.drop(1), n);
            s.is("nothing is there", x.item(1, n % 3, 0, 0), -11);
        }

        s.promise(30, "BAD;");
        s.refused("too small", -1, y -> y.drop(-1));
        s.refused("too large", -1, y -> y.drop(4));
        s.refused("MIN", -1, y -> y.drop(MIN));
        s.refused("MAX", -1, y -> y.drop(MAX));

        s.promise(30, "NULL.");
        s.refused("nothing", -11, y -> y.drop(3));
        LeftShoes z = new LeftShoes();
        z.sheet(3, 0, 0);
        s.is("one of no items is there", z.drop(3), 0);
        s.is("once", z.drop(3), -11);
    }

    private static void item(Sentences s) {
        s.promise(31, "Item i of a SHEET, taken as a row of a LANE, becomes v,");
        LeftShoes x = readers();
        for (int lane = 0; lane < 3; lane++) {
            x.sheet(lane, lane, 3);
            s.is("the first", x.item(lane, lane, 0, 1), 1);
            holds(s, x, lane, lane, 1, 0, 0);
            s.is("the last", x.item(lane, lane, 2, 1), 1);
            holds(s, x, lane, lane, 1, 0, 1);
            s.is("back", x.item(lane, lane, 0, 0), 1);
            holds(s, x, lane, lane, 0, 0, 1);
        }
    }

    private static void lowestBits(Sentences s) {
        s.promise(31, "its lowest bits: 1.");
        LeftShoes x = new LeftShoes();
        x.person(0, 0);
        x.shoe(0, 0, 0, 99);
        int[] values = {5, 261, -251, 65541, -65531, 16777221, 133, MIN + 5, -1, 0, MAX, 0x8005, 0x7FFF05};
        for (int lane = 0; lane < 3; lane++) {
            x.sheet(lane, lane, 2);
            long bits = lane == 0 ? 0xFFL : lane == 1 ? 0xFFFFL : 0xFFFFFFFFL;
            for (int v : values) {
                s.is(v + " in lane " + lane, x.item(lane, lane, 1, v), 1);
                // SHOE 0 was walked 1 to 99 MILES; only one that is so can be.
                s.is(v + " as MILES in lane " + lane, x.book(lane, lane, 0, 1), (v & bits) >= 1 && (v & bits) <= 99 ? -4 : 0);
            }
        }
    }

    private static void itemRefused(Sentences s) {
        s.promise(31, "BAD;");
        s.refused("sheet too small", -1, x -> x.item(-1, 2, 0, 1));
        s.refused("sheet too large", -1, x -> x.item(4, 2, 0, 1));
        s.refused("lane too small", -1, x -> x.item(0, -1, 0, 1));
        s.refused("lane too large", -1, x -> x.item(0, 3, 0, 1));
        s.refused("extremes", -1, x -> x.item(MAX, MIN, MAX, MIN));

        s.promise(31, "NULL;");
        s.refused("nothing", -11, x -> x.item(3, 0, 0, 1));
        s.refused("nothing, i -1", -11, x -> x.item(3, 2, -1, 1));

        s.promise(31, "CAST;");
        s.refused("ints as shorts", -12, x -> x.item(0, 1, 0, 1));
        s.refused("shorts as bytes", -12, x -> x.item(1, 0, 0, 1));
        s.refused("bytes as ints", -12, x -> x.item(2, 2, 0, 1));

        s.promise(31, "INDEX.");
        s.refused("i -1", -13, x -> x.item(0, 2, -1, 1));
        s.refused("i 5", -13, x -> x.item(0, 2, 5, 1));
        s.refused("i 24", -13, x -> x.item(0, 2, 24, 1));
        s.refused("i 0 of none", -13, x -> x.item(2, 0, 0, 1));
        s.refused("i MAX", -13, x -> x.item(0, 2, MAX, 1));
        s.refused("i MIN", -13, x -> x.item(0, 2, MIN, 1));
    }

    private static void copy(Sentences s) {
        s.promise(32, "n items of a SHEET from i on come to another one (or the same) from j on,");
        for (int lane = 0; lane < 3; lane++) {
            LeftShoes x = readers();
            County.sheet(x, 0, lane, 1, 1, 0, 1);
            County.sheet(x, 3, lane, 0, 0, 0, 0, 0);
            s.is("none", x.copy(0, 0, 3, 0, 0), 0);
            holds(s, x, 3, lane, 0, 0, 0, 0, 0);
            s.is("one", x.copy(0, 3, 3, 4, 1), 1);
            holds(s, x, 3, lane, 0, 0, 0, 0, 1);
            s.is("three", x.copy(0, 0, 3, 1, 3), 3);
            holds(s, x, 3, lane, 0, 1, 1, 0, 1);
            holds(s, x, 0, lane, 1, 1, 0, 1);
            s.is("all", x.copy(0, 0, 3, 0, 4), 4);
            holds(s, x, 3, lane, 1, 1, 0, 1, 1);
            x.item(0, lane, 0, 0);
            holds(s, x, 3, lane, 1, 1, 0, 1, 1);
            s.is("to the same one", x.copy(3, 1, 3, 2, 2), 2);
            holds(s, x, 3, lane, 1, 1, 1, 0, 1);
        }
    }

    private static void overlap(Sentences s) {
        s.promise(32, "as if all were taken ahead: n.");
        int[] row = {1, 0, 0, 1, 1, 0};
        for (int i = 0; i <= 6; i++) {
            for (int j = 0; j <= 6; j++) {
                LeftShoes x = readers();
                County.sheet(x, 0, 0, row);
                int n = 6 - Math.max(i, j);
                int[] want = row.clone();
                for (int k = 0; k < n; k++) {
                    want[j + k] = row[i + k];
                }
                s.is("copy(0, " + i + ", 0, " + j + ", " + n + ")", x.copy(0, i, 0, j, n), n);
                holds(s, x, 0, 0, want);
            }
        }
    }

    private static void copyRefused(Sentences s) {
        s.promise(32, "BAD;");
        s.refused("from too small", -1, x -> x.copy(-1, 0, 0, 0, 1));
        s.refused("from too large", -1, x -> x.copy(4, 0, 0, 0, 1));
        s.refused("to too small", -1, x -> x.copy(0, 0, -1, 0, 1));
        s.refused("to too large", -1, x -> x.copy(0, 0, 4, 0, 1));
        s.refused("extremes", -1, x -> x.copy(MIN, MAX, MAX, MIN, MIN));

        s.promise(32, "NULL (either);");
        s.refused("from", -11, x -> x.copy(3, 0, 0, 0, 1));
        s.refused("to", -11, x -> x.copy(0, 0, 3, 0, 1));
        s.refused("to, none", -11, x -> x.copy(0, 0, 3, 0, 0));
        s.refused("both", -11, x -> x.copy(3, 0, 3, 0, 0));

        s.promise(32, "CAST: of unlike LANES;");
        int[] lanes = {2, 1, 0};
        for (int from = 0; from < 3; from++) {
            for (int to = 0; to < 3; to++) {
                int one = from;
                int other = to;
                s.tells("lane " + lanes[from] + " to lane " + lanes[to], from == to ? 0 : -12,
                        x -> x.copy(one, 0, other, 0, 0));
            }
        }

        s.promise(32, "INDEX (n below 0, too).");
        s.refused("n -1", -13, x -> x.copy(0, 1, 0, 2, -1));
        s.refused("n MIN", -13, x -> x.copy(0, 0, 0, 0, MIN));
        s.refused("n -1 at the ends", -13, x -> x.copy(0, 5, 0, 5, -1));
        s.refused("i -1", -13, x -> x.copy(0, -1, 0, 0, 1));
        s.refused("j -1", -13, x -> x.copy(0, 0, 0, -1, 1));
        s.refused("one too many from", -13, x -> x.copy(0, 4, 0, 0, 2));
        s.refused("one too many to", -13, x -> x.copy(0, 0, 0, 4, 2));
        s.refused("six of five", -13, x -> x.copy(0, 0, 0, 0, 6));
        s.refused("25", -13, x -> x.copy(0, 0, 0, 0, 25));
        s.refused("i and n wrap around", -13, x -> x.copy(0, MAX, 0, 0, MAX));
        s.refused("j and n wrap around", -13, x -> x.copy(0, 0, 0, MAX, 2));
        s.refused("n MAX", -13, x -> x.copy(0, 1, 0, 1, MAX));
        s.refused("i MIN", -13, x -> x.copy(0, MIN, 0, 0, MAX));
        s.tells("five of five", 5, x -> x.copy(0, 0, 0, 0, 5));
    }
}
