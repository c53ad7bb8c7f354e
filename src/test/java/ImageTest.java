/** Promises 24 and 25: images. */
public final class ImageTest {
    public static void main(String[] args) {
        Due due = new Due();
        all(due);
        twice(due);
        places(due);
        notSheetsNorTape(due);
        emptyImage(due);
        due.end();
    }

    private static LeftShoes county() {
        LeftShoes x = new LeftShoes();
        x.person(50, 0);
        x.person(60, 1);
        x.shoe(0, 0, 0, 30);
        x.shoe(0, 1, 1, 31);
        x.shoe(1, 0, 2, 32);
        x.stamp(0, true);
        for (int sort = 0; sort < 4; sort++) {
            x.tax(sort, sort + 1);
        }
        x.tax(4, 44);
        for (int mile = 0; mile < 9; mile++) {
            x.road(mile, 0, mile);
            x.road(mile, 1, mile + 5);
        }
        x.path(0, 1, 3);
        x.path(6, 7, 2);
        x.buyer(2, 10);
        x.buyer(3, 20);
        return x;
    }

    private static void change(LeftShoes x) {
        x.go(0, 0, 1, -1, 207);
        x.person(1, 2);
        x.give(2, 0);
        x.give(0, 1);
        x.shoe(0, 0, 3, 9);
        x.stamp(0, false);
        x.stamp(2, true);
        for (int sort = 0; sort < 4; sort++) {
            x.tax(sort, 0);
        }
        x.tax(4, 0);
        x.tax(5, 1);
        for (int mile = 0; mile < 9; mile++) {
            x.road(mile, 0, 9);
            x.road(mile, 1, 16);
        }
        x.path(0, 1, -1);
        x.path(2, 3, 0);
        x.path(6, 7, 9);
        x.fair();
        x.buyer(9, 99);
        x.buyer(8, 98);
        x.buyer(7, 97);
    }

    private static void isCounty(Due due, LeftShoes x) {
        int[] counts = {2, 3, 1, 93, 2, 2};
        for (int what = 0; what < 6; what++) {
            due.is("count " + what, x.count(what), counts[what]);
        }
        due.is("purse 0", x.of(0, 0), 50);
        due.is("purse 1", x.of(1, 0), 60);
        due.is("feet 1", x.of(1, 1), 1);
        due.is("nobody is 2", x.of(2, 0), -1);
        int[][] shoes = {{0, 0, 30, 1, 0}, {1, 1, 31, 0, 0}, {0, 2, 32, 0, 1}};
        for (int shoe = 0; shoe < 3; shoe++) {
            for (int what = 0; what < 5; what++) {
                due.is("told " + shoe + " " + what, x.told(shoe, what), shoes[shoe][what]);
            }
        }
        due.is("no shoe 3", x.told(3, 0), -1);
        int[] tax = {1, 2, 3, 4, 44, 0};
        for (int what = 0; what < 6; what++) {
            due.is("tax " + what, x.tax(what, tax[what]), tax[what]);
        }
        for (int mile = 0; mile < 9; mile++) {
            due.is("mud " + mile, x.road(mile, 0, mile), mile);
            due.is("watched " + mile, x.road(mile, 1, mile + 5), mile + 5);
        }
        due.is("path 0 1", x.path(0, 1, 3), 103);
        due.is("path 2 3", x.path(2, 3, -1), 99);
        due.is("path 6 7", x.path(7, 6, 2), 102);
        due.is("wanted at 10", x.market(10, 5, 0), 10);
        due.is("wanted at 20", x.market(20, 3, 0), 20);
    }

    private static void all(Due due) {
        due.of("promise 24: image, promise 25: restore");
        LeftShoes x = county();
        due.is("none is kept", x.restore(), -4);
        due.is("image", x.image(), 1);
        isCounty(due, x);
        change(x);
        due.is("9 pence are gone", x.of(0, 0), 41);
        due.is("18 soles are gone, 9 came", x.count(3), 84);
        due.is("restore", x.restore(), 1);
        isCounty(due, x);
    }

    private static void twice(Due due) {
        due.of("promise 25: the image stays, a new one takes its place");
        LeftShoes x = county();
        x.image();
        change(x);
        x.restore();
        change(x);
        due.is("restore again", x.restore(), 1);
        isCounty(due, x);
        x.tax(0, 9);
        due.is("a new image", x.image(), 1);
        change(x);
        x.restore();
        due.is("the new one", x.tax(0, 1), 9);
        isCounty(due, x);
        x.restore();
        due.is("changes behind do not touch it", x.tax(0, 1), 9);
    }

    private static void places(Due due) {
        due.of("promise 25: what came behind the image is gone");
        LeftShoes x = county();
        x.image();
        x.shoe(0, 0, 3, 9);
        x.stamp(3, true);
        x.person(5, 2);
        x.restore();
        due.is("a new shoe takes the number", x.shoe(1, 1, 0, 8), 3);
        due.is("it is not stamped", x.told(3, 3), 0);
        due.is("a new one of people", x.person(6, 0), 2);
        due.is("feet", x.of(2, 1), 0);
        x.restore();
        due.is("gone", x.told(3, 0), -1);
    }

    private static void notSheetsNorTape(Due due) {
        due.of("promise 24: not sheets, not the tape");
        LeftShoes x = county();
        x.sheet(0, 2, 3);
        x.item(0, 2, 0, 7);
        Text.put(x, "p9");
        x.image();
        x.item(0, 2, 0, 8);
        x.sheet(1, 0, 5);
        Text.put(x, "s8");
        x.restore();
        due.is("the tape is p9s8", x.taxes(), 2);
        due.is("rate 0", x.tax(0, 0), 9);
        due.is("rate 1", x.tax(1, 0), 8);
        due.is("8 is a print", x.prints(0, 2, 0, 1, 0, 0), 0);
        due.is("sheet 1 is there", x.drop(1), 5);
        x.drop(0);
        x.restore();
        due.is("sheet 0 stays dropped", x.drop(0), -11);
        due.is("the tape stays empty", x.taxes(), -20);
    }

    private static void emptyImage(Due due) {
        due.of("promise 24: an image of nothing");
        LeftShoes x = new LeftShoes();
        x.image();
        x.person(1, 1);
        x.shoe(0, 0, 0, 1);
        x.buyer(1, 1);
        x.path(0, 1, 1);
        x.restore();
        for (int what = 0; what < 6; what++) {
            due.is("count " + what, x.count(what), 0);
        }
    }
}
