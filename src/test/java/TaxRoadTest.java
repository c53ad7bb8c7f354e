/** Promises 8 to 12: the tax, the road, the tape and its texts. */
public final class TaxRoadTest {
    private static final int MIN = Integer.MIN_VALUE, MAX = Integer.MAX_VALUE;

    public static void main(String[] args) {
        Due due = new Due();
        tax(due);
        road(due);
        tape(due);
        taxTexts(due);
        taxFaults(due);
        roadTexts(due);
        roadFaults(due);
        due.end();
    }

    private static void tax(Due due) {
        due.of("promise 8: tax");
        LeftShoes x = new LeftShoes();
        for (int sort = 0; sort < 4; sort++) {
            due.is("a rate", x.tax(sort, 9 - sort), 0);
            due.is("it was", x.tax(sort, 0), 9 - sort);
            due.is("rate 10", x.tax(sort, 10), -1);
            due.is("rate -1", x.tax(sort, -1), -1);
            due.is("refused, it stays", x.tax(sort, 9), 0);
        }
        due.is("the fine", x.tax(4, 99), 0);
        due.is("fine 100", x.tax(4, 100), -1);
        due.is("fine -1", x.tax(4, -1), -1);
        due.is("it was", x.tax(4, 0), 99);
        due.is("the foot", x.tax(5, 1), 0);
        due.is("foot 2", x.tax(5, 2), -1);
        due.is("foot -1", x.tax(5, -1), -1);
        due.is("it was", x.tax(5, 0), 1);
        due.is("what 6", x.tax(6, 0), -1);
        due.is("what -1", x.tax(-1, 0), -1);
        due.is("extremes", x.tax(MIN, MAX), -1);
    }

    private static void road(Due due) {
        due.of("promise 9: road");
        LeftShoes x = new LeftShoes();
        for (int mile = 0; mile < 9; mile++) {
            due.is("mud", x.road(mile, 0, mile), 0);
            due.is("watched", x.road(mile, 1, 16 - mile), 0);
        }
        for (int mile = 0; mile < 9; mile++) {
            due.is("mud was", x.road(mile, 0, 9), mile);
            due.is("watched was", x.road(mile, 1, 0), 16 - mile);
        }
        due.is("mud 10", x.road(0, 0, 10), -1);
        due.is("mud -1", x.road(0, 0, -1), -1);
        due.is("watched 17", x.road(0, 1, 17), -1);
        due.is("watched -1", x.road(0, 1, -1), -1);
        due.is("mile 9", x.road(9, 0, 0), -1);
        due.is("mile -1", x.road(-1, 1, 0), -1);
        due.is("what 2", x.road(0, 2, 0), -1);
        due.is("what -1", x.road(0, -1, 0), -1);
        due.is("extremes", x.road(MAX, MIN, MAX), -1);
        due.is("refused, mud stays", x.road(0, 0, 0), 9);
        due.is("refused, watched stays", x.road(0, 1, 0), 0);
    }

    private static void tape(Due due) {
        due.of("promise 10: type");
        LeftShoes x = new LeftShoes();
        due.is("n 0", x.type('p', 0), -1);
        due.is("n 9", x.type(Text.EIGHT_BLANKS, 9), -1);
        due.is("n -1", x.type('p', -1), -1);
        due.is("byte 31", x.type(31, 1), -1);
        due.is("byte 127", x.type(127, 1), -1);
        due.is("byte 0 ahead", x.type('p', 2), -1);
        due.is("byte 128", x.type(128, 1), -1);
        due.is("all bits", x.type(-1L, 8), -1);
        due.is("a bad one behind", x.type(('p' << 8) | 10, 2), -1);
        due.is("higher bytes do not count", x.type(0x7F00FF0000L | 'p', 1), 1);
        due.is("the highest first", x.type(('7' << 8) | 'f', 2), 3);
        due.is("two signs", x.type(('9' << 8) | ' ', 2), 5);
        due.is("it reads p7f9", x.taxes(), 1);
        due.is("rate", x.tax(0, 0), 7);
        due.is("fine", x.tax(4, 0), 9);
        due.is("byte 126", x.type(126, 1), 1);
        for (int k = 1; k <= 7; k++) {
            due.is("eight", x.type(Text.EIGHT_BLANKS, 8), 1 + 8 * k);
        }
        due.is("four would be 61", x.type(0x20202020L, 4), -3);
        due.is("refused, BAD ahead of FULL", x.type(0x2020201FL, 4), -1);
        due.is("three make 60", x.type(0x202020L, 3), 60);
        due.is("one more", x.type(' ', 1), -3);
        due.is("it had ~ at its first place", x.taxes(), -20);
        due.is("the tape is empty", x.type(' ', 1), 1);
    }

    private static void taxIs(Due due, LeftShoes x, int... want) {
        for (int what = 0; what < 6; what++) {
            int was = x.tax(what, 0);
            due.is("tax " + what, was, want[what]);
            x.tax(what, was);
        }
    }

    private static void taxTexts(Due due) {
        due.of("promise 11: taxes");
        LeftShoes x = new LeftShoes();
        due.is("p5", Text.taxes(x, "p5"), 1);
        taxIs(due, x, 5, 0, 0, 0, 0, 0);
        due.is("r all", Text.taxes(x, "rk4c3s2p1f99"), 4);
        taxIs(due, x, 1, 2, 3, 4, 99, 1);
        due.is("what is not told stays", Text.taxes(x, "s9"), 1);
        taxIs(due, x, 1, 9, 3, 4, 99, 1);
        due.is("l", Text.taxes(x, "lc0k0"), 2);
        taxIs(due, x, 1, 9, 0, 0, 99, 0);
        due.is("blanks", Text.taxes(x, "  r  p 0  s 1 k  2 f   007  "), 3);
        taxIs(due, x, 0, 1, 0, 2, 7, 1);
        due.is("many 0s", Text.taxes(x, "p1f000000000000000000000000000099"), 1);
        taxIs(due, x, 1, 1, 0, 2, 99, 1);
        due.is("0", Text.taxes(x, "c8f0"), 1);
        taxIs(due, x, 1, 1, 8, 2, 0, 1);
        due.is("r stays by r", Text.taxes(x, "rp3"), 1);
        taxIs(due, x, 3, 1, 8, 2, 0, 1);
    }

    private static void taxFaults(Due due) {
        due.of("promise 11: taxes, faults");
        LeftShoes x = new LeftShoes();
        Text.taxes(x, "r p1s2c3k4 f50");
        Object[][] faults = {
            {"", 0}, {"   ", 3}, {"l", 1}, {"l ", 2}, {"lr", 1}, {"x", 0}, {" x", 1}, {"p", 1}, {"p ", 2}, {"px", 1},
            {"p12", 2}, {"p1 2", 3}, {"p1p2", 2}, {"p1s2p3", 4}, {"p1l", 2}, {"f5", 0}, {"lf5", 1}, {"p1f", 3}, {"p1f ", 4},
            {"p1fx", 3}, {"p1f100", 3}, {"p1f 0100", 4}, {"p1f99999999999999999999", 3}, {"p1f4294967296", 3},
            {"p1f9 9", 5}, {"p1f9x", 4}, {"p1f100x", 3}, {"p1f5f6", 4}, {"p1f5s1", 4}, {"p1s2c3k4p5", 8}, {"P1", 0},
            {"p1,", 2}, {"p-1", 1}, {"p1f-1", 3}, {"p1 s2 c3 k4 l", 12}, {"p1sx", 3}};
        for (Object[] fault : faults) {
            String text = (String) fault[0];
            due.is("\"" + text + "\"", Text.taxes(x, text), -20 - (Integer) fault[1]);
            due.is("the tape is empty behind \"" + text + "\"", x.taxes(), -20);
            taxIs(due, x, 1, 2, 3, 4, 50, 1);
        }
    }

    private static void roadIs(Due due, LeftShoes x, int... want) {
        for (int k = 0; k < 18; k++) {
            int was = x.road(k / 2, k % 2, 0);
            due.is("mile " + k / 2 + " what " + k % 2, was, want[k]);
            x.road(k / 2, k % 2, was);
        }
    }

    private static void roadTexts(Due due) {
        due.of("promise 12: roads");
        LeftShoes x = new LeftShoes();
        due.is("mud", Text.roads(x, "0,1,2,3,4,5,6,7,8"), 36);
        roadIs(due, x, 0, 0, 1, 0, 2, 0, 3, 0, 4, 0, 5, 0, 6, 0, 7, 0, 8, 0);
        due.is("watched", Text.roads(x, "9w16,9w0,9 w 007,9,9,9,9,9w1 , 9w10 "), 81);
        roadIs(due, x, 9, 16, 9, 0, 9, 7, 9, 0, 9, 0, 9, 0, 9, 0, 9, 1, 9, 10);
        due.is("what is not told is 0", Text.roads(x, "0,0,0,0,0,0,0,0,0"), 0);
        roadIs(due, x, new int[18]);
        due.is("blanks", Text.roads(x, "  1 ,  2w3,0,0,0,0,0,0,0w00000000000016 "), 3);
        roadIs(due, x, 1, 0, 2, 3, 0, 0, 0, 0, 0, 0, 0, 0, 0, 0, 0, 0, 0, 16);
    }

    private static void roadFaults(Due due) {
        due.of("promise 12: roads, faults");
        LeftShoes x = new LeftShoes();
        Text.roads(x, "1w2,3w4,5,6,7,8,9,1,2w5");
        Object[][] faults = {
            {"", 0}, {"  ", 2}, {"w", 0}, {",", 0}, {"1", 1}, {"1 ", 2}, {"12", 1}, {"1 2", 2}, {"1w", 2}, {"1w ", 3},
            {"1w17", 2}, {"1w 017", 3}, {"1w99999999999", 2}, {"1w1 6", 4}, {"1ww", 2}, {"1,", 2}, {"1,,", 2}, {"1,x", 2},
            {"1;", 1}, {"1,2,3,4,5,6,7,8", 15}, {"1,2,3,4,5,6,7,8,", 16}, {"1,2,3,4,5,6,7,8,9,", 17},
            {"1,2,3,4,5,6,7,8,9 w17", 19}, {"1,2,3,4,5,6,7,8,9w1w", 19}, {"1,2,3,4,5,6,7,8,91", 17}, {"-1", 0},
            {"1,2,3,4,5,6,7,8,9 , 1", 18}};
        for (Object[] fault : faults) {
            String text = (String) fault[0];
            due.is("\"" + text + "\"", Text.roads(x, text), -20 - (Integer) fault[1]);
            due.is("the tape is empty behind \"" + text + "\"", x.roads(), -20);
            roadIs(due, x, 1, 2, 3, 4, 5, 0, 6, 0, 7, 0, 8, 0, 9, 0, 1, 0, 2, 5);
        }
    }
}
