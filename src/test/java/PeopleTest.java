/** Promises 1 to 7 and 13: a new object, people, shoes, how many. */
public final class PeopleTest {
    private static final int MIN = Integer.MIN_VALUE, MAX = Integer.MAX_VALUE;

    public static void main(String[] args) {
        Due due = new Due();
        newObject(due);
        people(due);
        shoes(due);
        told(due);
        stamps(due);
        gifts(due);
        whatIsOf(due);
        counts(due);
        due.end();
    }

    private static void newObject(Due due) {
        due.of("promise 1: a new object");
        LeftShoes x = new LeftShoes();
        for (int what = 0; what <= 5; what++) {
            due.is("count(" + what + ")", x.count(what), 0);
        }
        due.is("told(0, 0)", x.told(0, 0), -1);
        due.is("of(0, 0)", x.of(0, 0), -1);
        for (int what = 0; what <= 5; what++) {
            due.is("tax was all 0", x.tax(what, what == 5 ? 1 : 7), 0);
        }
        for (int mile = 0; mile < 9; mile++) {
            due.is("no mud", x.road(mile, 0, 1), 0);
            due.is("no watcher", x.road(mile, 1, 1), 0);
        }
        due.is("the tape is empty", x.type(' ', 1), 1);
        for (int one = 0; one < 8; one++) {
            for (int other = 0; other < one; other++) {
                due.is("no path", x.path(one, other, -1), 99);
            }
        }
        due.is("no image", x.restore(), -4);
        for (int sheet = 0; sheet < 4; sheet++) {
            due.is("no sheet", x.drop(sheet), -11);
        }
        due.is("another object is another one", new LeftShoes().count(0), 0);
    }

    private static void people(Due due) {
        due.of("promise 2: person");
        LeftShoes x = new LeftShoes();
        due.is("purse -1", x.person(-1, 0), -1);
        due.is("purse 10000", x.person(10000, 0), -1);
        due.is("feet -1", x.person(0, -1), -1);
        due.is("feet 3", x.person(0, 3), -1);
        due.is("extremes", x.person(MIN, MAX), -1);
        due.is("nobody has come", x.count(0), 0);
        due.is("first", x.person(0, 0), 0);
        due.is("second", x.person(9999, 1), 1);
        due.is("third", x.person(5, 2), 2);
        due.is("fourth", x.person(5, 2), 3);
        due.is("fifth", x.person(6, 0), 4);
        due.is("sixth", x.person(6, 0), -3);
        due.is("sixth, bad", x.person(10000, 0), -1);
        due.is("people", x.count(0), 5);
        due.is("purse 1", x.of(1, 0), 9999);
        due.is("feet 1", x.of(1, 1), 1);
        due.is("feet 3", x.of(3, 1), 2);
    }

    private static void shoes(Due due) {
        due.of("promise 3: shoe");
        LeftShoes x = new LeftShoes();
        due.is("nobody's", x.shoe(0, 0, 0, 0), -1);
        x.person(0, 0);
        x.person(0, 1);
        due.is("owner -1", x.shoe(-1, 0, 0, 0), -1);
        due.is("owner 2", x.shoe(2, 0, 0, 0), -1);
        due.is("foot -1", x.shoe(0, -1, 0, 0), -1);
        due.is("foot 2", x.shoe(0, 2, 0, 0), -1);
        due.is("sort -1", x.shoe(0, 0, -1, 0), -1);
        due.is("sort 4", x.shoe(0, 0, 4, 0), -1);
        due.is("soles -1", x.shoe(0, 0, 0, -1), -1);
        due.is("soles 100", x.shoe(0, 0, 0, 100), -1);
        due.is("no shoe has come", x.count(1), 0);
        due.is("first", x.shoe(1, 0, 3, 99), 0);
        due.is("one for a foot that he has not", x.shoe(1, 1, 0, 0), 1);
        for (int k = 2; k < 16; k++) {
            due.is("shoe " + k, x.shoe(k % 2, k % 2, k % 4, k), k);
        }
        due.is("a seventeenth", x.shoe(0, 0, 0, 0), -3);
        due.is("a seventeenth, bad", x.shoe(0, 0, 0, 100), -1);
        due.is("shoes", x.count(1), 16);
        due.is("the last one's soles", x.told(15, 2), 15);
    }

    private static void told(Due due) {
        due.of("promise 4: told");
        LeftShoes x = new LeftShoes();
        x.person(0, 0);
        x.person(0, 0);
        x.shoe(1, 1, 2, 98);
        x.shoe(0, 0, 3, 0);
        int[][] want = {{1, 2, 98, 0, 1}, {0, 3, 0, 0, 0}};
        for (int shoe = 0; shoe < 2; shoe++) {
            for (int what = 0; what < 5; what++) {
                due.is("told(" + shoe + ", " + what + ")", x.told(shoe, what), want[shoe][what]);
            }
        }
        x.stamp(0, true);
        due.is("stamped", x.told(0, 3), 1);
        due.is("the other is not", x.told(1, 3), 0);
        due.is("what -1", x.told(0, -1), -1);
        due.is("what 5", x.told(0, 5), -1);
        due.is("shoe 2", x.told(2, 0), -1);
        due.is("shoe -1", x.told(-1, 0), -1);
        due.is("shoe 16", x.told(16, 0), -1);
        due.is("extremes", x.told(MAX, MIN), -1);
    }

    private static void stamps(Due due) {
        due.of("promise 5: stamp");
        LeftShoes x = new LeftShoes();
        due.is("no such shoe", x.stamp(0, true), -1);
        x.person(0, 0);
        x.shoe(0, 0, 0, 1);
        x.shoe(0, 1, 0, 1);
        due.is("was not", x.stamp(1, true), 0);
        due.is("was", x.stamp(1, true), 1);
        due.is("stamped in all", x.count(2), 1);
        due.is("was, is not now", x.stamp(1, false), 1);
        due.is("was not", x.stamp(1, false), 0);
        due.is("none stamped", x.count(2), 0);
        due.is("shoe -1", x.stamp(-1, true), -1);
        due.is("shoe 2", x.stamp(2, true), -1);
        due.is("none stamped by that", x.count(2), 0);
    }

    private static void gifts(Due due) {
        due.of("promise 6: give");
        LeftShoes x = new LeftShoes();
        x.person(0, 0);
        x.person(0, 2);
        x.shoe(0, 0, 1, 1);
        due.is("it was 0's", x.give(0, 1), 0);
        due.is("it is 1's", x.told(0, 4), 1);
        due.is("0 has no left", x.of(0, 2), 0);
        due.is("1 has a left", x.of(1, 2), 1);
        due.is("to whom it is", x.give(0, 1), 1);
        due.is("back", x.give(0, 0), 1);
        due.is("to nobody there", x.give(0, 2), -1);
        due.is("to -1", x.give(0, -1), -1);
        due.is("no such shoe", x.give(1, 0), -1);
        due.is("shoe -1", x.give(-1, 0), -1);
        due.is("it is 0's", x.told(0, 4), 0);
    }

    private static void whatIsOf(Due due) {
        due.of("promise 7: of");
        LeftShoes x = new LeftShoes();
        x.person(123, 2);
        x.person(7, 0);
        x.shoe(0, 0, 0, 1);
        x.shoe(0, 1, 1, 0);
        x.shoe(0, 1, 2, 1);
        x.shoe(1, 0, 2, 1);
        int[][] want = {{123, 2, 1, 2}, {7, 0, 1, 0}};
        for (int person = 0; person < 2; person++) {
            for (int what = 0; what < 4; what++) {
                due.is("of(" + person + ", " + what + ")", x.of(person, what), want[person][what]);
            }
        }
        due.is("what -1", x.of(0, -1), -1);
        due.is("what 4", x.of(0, 4), -1);
        due.is("person 2", x.of(2, 0), -1);
        due.is("person -1", x.of(-1, 0), -1);
    }

    private static void counts(Due due) {
        due.of("promise 13: count");
        LeftShoes x = new LeftShoes();
        x.person(0, 0);
        x.person(0, 0);
        x.shoe(0, 0, 0, 99);
        x.shoe(1, 1, 3, 2);
        x.shoe(1, 1, 1, 0);
        x.stamp(0, true);
        x.stamp(2, true);
        for (int k = 0; k < 4; k++) {
            x.buyer(1, 1);
        }
        x.path(0, 1, 0);
        x.path(1, 0, 15);
        x.path(7, 2, 3);
        x.path(7, 3, 3);
        x.path(3, 7, -1);
        int[] want = {2, 3, 2, 101, 4, 2};
        for (int what = 0; what < 6; what++) {
            due.is("count(" + what + ")", x.count(what), want[what]);
        }
        due.is("what -1", x.count(-1), -1);
        due.is("what 6", x.count(6), -1);
        due.is("extreme", x.count(MIN), -1);
    }
}
