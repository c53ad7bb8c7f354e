/** Promises 29 to 32: sheet, drop, item, copy. */
public final class SheetsTest {
    private static final int MIN = Integer.MIN_VALUE, MAX = Integer.MAX_VALUE;

    public static void main(String[] args) {
        Due due = new Due();
        sheet(due);
        drop(due);
        item(due);
        itemNarrow(due);
        copy(due);
        copyOverlap(due);
        copyRefused(due);
        due.end();
    }

    /** An item of an int row, 0 or 1, told by who can have made it barefoot; -1 if it is neither. */
    private static int look(LeftShoes x, int sheet, int i) {
        if (x.prints(sheet, 2, i, 1, 0, 0) != 1) {
            return -1;
        }
        return x.prints(sheet, 2, i, 1, 1, 0) == 1 ? 0 : 1;
    }

    /** 0 with both FEET, 1 with the left one alone: so item 0 is a print of both, 1 of the first alone. */
    private static LeftShoes readers() {
        LeftShoes x = new LeftShoes();
        x.person(0, 0);
        x.person(0, 1);
        return x;
    }

    private static void sheet(Due due) {
        due.of("promise 29: sheet");
        LeftShoes x = readers();
        due.is("24", x.sheet(0, 0, 24), 24);
        due.is("0", x.sheet(3, 2, 0), 0);
        due.is("5", x.sheet(1, 1, 5), 5);
        due.is("25", x.sheet(0, 0, 25), -1);
        due.is("MAX", x.sheet(0, 0, MAX), -1);
        due.is("sheet 4", x.sheet(4, 0, 1), -1);
        due.is("sheet -1", x.sheet(-1, 0, 1), -1);
        due.is("lane 3", x.sheet(0, 3, 1), -1);
        due.is("lane -1", x.sheet(0, -1, 1), -1);
        due.is("n -1", x.sheet(0, 0, -1), -14);
        due.is("n MIN", x.sheet(0, 0, MIN), -14);
        due.is("bad ahead of size", x.sheet(4, 0, -1), -1);
        due.is("lane, bad ahead of size", x.sheet(0, 3, -1), -1);
        due.is("refused, it stays", x.drop(0), 24);
        due.is("empty, but there", x.drop(3), 0);
        x.sheet(0, 2, 3);
        x.item(0, 2, 1, 1);
        due.is("item 1 is 1", look(x, 0, 1), 1);
        due.is("a new row", x.sheet(0, 2, 3), 3);
        for (int i = 0; i < 3; i++) {
            due.is("of zeros", look(x, 0, i), 0);
        }
        x.item(0, 2, 2, 1);
        x.sheet(0, 1, 2);
        due.is("of another lane", x.item(0, 2, 0, 1), -12);
        x.sheet(0, 2, 3);
        due.is("what stood behind is gone", look(x, 0, 2), 0);
    }

    private static void drop(Due due) {
        due.of("promise 30: drop");
        LeftShoes x = new LeftShoes();
        due.is("nothing", x.drop(0), -11);
        x.sheet(0, 1, 7);
        due.is("seven", x.drop(0), 7);
        due.is("nothing any more", x.drop(0), -11);
        due.is("no item", x.item(0, 1, 0, 1), -11);
        due.is("sheet 4", x.drop(4), -1);
        due.is("sheet -1", x.drop(-1), -1);
        due.is("sheet MIN", x.drop(MIN), -1);
        x.sheet(0, 0, 2);
        due.is("two", x.drop(0), 2);
    }

    private static void item(Due due) {
        due.of("promise 31: item");
        LeftShoes x = readers();
        due.is("null", x.item(0, 2, 0, 1), -11);
        due.is("null ahead of index", x.item(0, 2, -1, 1), -11);
        x.sheet(0, 2, 3);
        due.is("first", x.item(0, 2, 0, 1), 1);
        due.is("last", x.item(0, 2, 2, 1), 1);
        due.is("first is 1", look(x, 0, 0), 1);
        due.is("second is 0", look(x, 0, 1), 0);
        due.is("last is 1", look(x, 0, 2), 1);
        due.is("first again", x.item(0, 2, 0, 0), 1);
        due.is("first is 0", look(x, 0, 0), 0);
        due.is("i 3", x.item(0, 2, 3, 1), -13);
        due.is("i -1", x.item(0, 2, -1, 1), -13);
        due.is("i MAX", x.item(0, 2, MAX, 1), -13);
        due.is("i MIN", x.item(0, 2, MIN, 1), -13);
        due.is("cast", x.item(0, 1, 0, 1), -12);
        due.is("cast ahead of index", x.item(0, 0, 5, 1), -12);
        due.is("lane 3", x.item(0, 3, 0, 1), -1);
        due.is("lane -1, ahead of null", x.item(1, -1, 0, 1), -1);
        due.is("sheet 4", x.item(4, 2, 0, 1), -1);
        due.is("sheet -1", x.item(-1, 2, 0, 1), -1);
        x.sheet(1, 0, 0);
        due.is("of no items", x.item(1, 0, 0, 0), -13);
    }

    private static void itemNarrow(Due due) {
        due.of("promise 31: item, its lowest bits");
        LeftShoes x = new LeftShoes();
        x.person(0, 0);
        x.shoe(0, 0, 0, 99);
        int[] values = {1, 99, 100, 0, -1, 256 + 5, 65536 + 5, 0x10000 + 0x100 + 5, 128 + 256, MIN + 7, MAX, -251, -65531};
        for (int lane = 0; lane < 3; lane++) {
            x.sheet(lane, lane, 2);
            for (int v : values) {
                int held = lane == 0 ? (byte) v : lane == 1 ? (short) v : v;
                due.is("becomes " + v, x.item(lane, lane, 1, v), 1);
                due.is("lane " + lane + " of " + v, x.book(lane, lane, 0, 1), held >= 1 && held <= 99 ? -4 : 0);
            }
        }
    }

    private static void copy(Due due) {
        due.of("promise 32: copy");
        LeftShoes x = readers();
        x.sheet(0, 2, 5);
        x.sheet(1, 2, 4);
        x.item(0, 2, 1, 1);
        x.item(0, 2, 2, 1);
        due.is("three", x.copy(0, 1, 1, 0, 3), 3);
        int[] want = {1, 1, 0, 0};
        for (int i = 0; i < 4; i++) {
            due.is("item " + i, look(x, 1, i), want[i]);
        }
        due.is("the first stays", look(x, 0, 1), 1);
        x.item(1, 2, 0, 0);
        due.is("they are two rows", look(x, 0, 1), 1);
        due.is("all", x.copy(1, 0, 0, 1, 4), 4);
        int[] then = {0, 0, 1, 0, 0};
        for (int i = 0; i < 5; i++) {
            due.is("then item " + i, look(x, 0, i), then[i]);
        }
        due.is("none", x.copy(0, 0, 1, 0, 0), 0);
        due.is("none at the ends", x.copy(0, 5, 1, 4, 0), 0);
        x.sheet(2, 0, 3);
        x.sheet(3, 0, 3);
        x.item(2, 0, 0, -1);
        due.is("bytes", x.copy(2, 0, 3, 0, 3), 3);
        due.is("-1 is no print", x.prints(3, 0, 0, 1, 0, 0), -2);
        due.is("0 is one", x.prints(3, 0, 1, 1, 0, 0), 1);
    }

    private static void copyOverlap(Due due) {
        due.of("promise 32: copy within one sheet");
        for (int i = 0; i < 6; i++) {
            for (int j = 0; j < 6; j++) {
                LeftShoes x = readers();
                x.sheet(0, 2, 10);
                int[] row = {1, 0, 0, 1, 1, 0, 1, 0, 1, 1};
                for (int k = 0; k < 10; k++) {
                    x.item(0, 2, k, row[k]);
                }
                int[] want = row.clone();
                for (int k = 0; k < 5; k++) {
                    want[j + k] = row[i + k];
                }
                due.is("copy(0, " + i + ", 0, " + j + ", 5)", x.copy(0, i, 0, j, 5), 5);
                for (int k = 0; k < 10; k++) {
                    due.is(i + " to " + j + ": item " + k, look(x, 0, k), want[k]);
                }
            }
        }
    }

    private static void copyRefused(Due due) {
        due.of("promise 32: copy, wrong inputs");
        LeftShoes x = readers();
        x.sheet(0, 2, 5);
        x.sheet(1, 1, 5);
        x.sheet(3, 2, 2);
        x.item(0, 2, 0, 1);
        due.is("from 4", x.copy(4, 0, 0, 0, 1), -1);
        due.is("from -1", x.copy(-1, 0, 0, 0, 1), -1);
        due.is("to 4", x.copy(0, 0, 4, 0, 1), -1);
        due.is("to -1, ahead of null", x.copy(2, 0, -1, 0, 1), -1);
        due.is("null from", x.copy(2, 0, 0, 0, 1), -11);
        due.is("null to", x.copy(0, 0, 2, 0, 1), -11);
        due.is("null to, ahead of index", x.copy(0, -1, 2, 0, 1), -11);
        due.is("null to itself", x.copy(2, 0, 2, 0, 0), -11);
        due.is("cast", x.copy(0, 0, 1, 0, 1), -12);
        due.is("cast, of none", x.copy(0, 0, 1, 0, 0), -12);
        due.is("cast ahead of index", x.copy(0, -1, 1, 0, 1), -12);
        due.is("n -1", x.copy(0, 0, 3, 0, -1), -13);
        due.is("n -1 inside", x.copy(0, 3, 3, 1, -1), -13);
        due.is("n MIN", x.copy(0, 0, 3, 0, MIN), -13);
        due.is("i -1", x.copy(0, -1, 3, 0, 1), -13);
        due.is("j -1", x.copy(0, 0, 3, -1, 1), -13);
        due.is("i 6 of none", x.copy(0, 6, 3, 0, 0), -13);
        due.is("j 3 of none", x.copy(0, 0, 3, 3, 0), -13);
        due.is("i -1 of none", x.copy(0, -1, 3, 0, 0), -13);
        due.is("j -1 of none", x.copy(0, 0, 3, -1, 0), -13);
        due.is("too many from", x.copy(3, 1, 0, 0, 2), -13);
        due.is("too many to", x.copy(0, 0, 3, 1, 2), -13);
        due.is("i MAX", x.copy(0, MAX, 3, 0, MAX), -13);
        due.is("j MAX", x.copy(0, 0, 3, MAX, 1), -13);
        due.is("n MAX", x.copy(0, 1, 3, 1, MAX), -13);
        due.is("refused, nothing is copied", look(x, 3, 0), 0);
        due.is("to the end", x.copy(0, 0, 3, 1, 1), 1);
        due.is("item 1", look(x, 3, 1), 1);
    }
}
