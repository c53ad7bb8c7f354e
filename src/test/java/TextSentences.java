/** Sentences of a TAX, a ROAD as TEXTS, of FAULTS: promises 11, 12. */
final class TextSentences {
    private static final String EIGHT = "1,2,3,4,5,6,7,8,";

    private TextSentences() {
    }

    static void all(Sentences s) {
        taxFoot(s);
        taxRates(s);
        taxEachOnce(s);
        taxDigit(s);
        taxFine(s);
        taxStays(s);
        roadMiles(s);
        roadMud(s);
        roadWatched(s);
        faults(s);
        blanks(s);
        numbers(s);
        taxes(s);
        roads(s);
    }

    private static void taxIs(Sentences s, LeftShoes x, String text, int... want) {
        for (int what = 0; what < 6; what++) {
            int was = x.tax(what, 0);
            x.tax(what, was);
            s.is("tax(" + what + ") behind " + text, was, want[what]);
        }
    }

    /** By a new object this TEXT is a TAX, or has a FAULT there. */
    private static void tax(Sentences s, String text, int want) {
        s.is("taxes of \"" + text + "\"", Text.taxes(new LeftShoes(), text), want);
    }

    private static void road(Sentences s, String text, int want) {
        s.is("roads of \"" + text + "\"", Text.roads(new LeftShoes(), text), want);
    }

    private static void taxFoot(Sentences s) {
        s.terms("A TAX is a TEXT: perhaps l or r (the FOOT; as it is),");
        LeftShoes x = new LeftShoes();
        String[] texts = {"p1", "rp2", "p3", "rp4", "lp5", "lp6", "p7"};
        int[] foot = {0, 1, 1, 1, 0, 0, 0};
        for (int k = 0; k < texts.length; k++) {
            s.is(texts[k], Text.taxes(x, texts[k]), 1);
            taxIs(s, x, texts[k], 1 + k, 0, 0, 0, 0, foot[k]);
        }
        tax(s, "lrp1", -21);
        tax(s, "llp1", -21);
        tax(s, "p1l", -22);
        tax(s, "p1rs1", -22);
        tax(s, "Lp1", -20);
    }

    private static void taxRates(Sentences s) {
        s.terms("then 1 to 4 of p s c k (for SORTS 0 to 3, in any order),");
        tax(s, "", -20);
        tax(s, "r", -21);
        tax(s, "f5", -20);
        tax(s, "lf5", -21);
        tax(s, "p1s2c3k4s5", -28);
        tax(s, "P1", -20);
        tax(s, "p1d1", -22);
        String signs = "psck";
        for (int order = 0; order < 256; order++) {
            int[] sorts = {order & 3, order >> 2 & 3, order >> 4 & 3, order >> 6};
            if ((1 << sorts[0] | 1 << sorts[1] | 1 << sorts[2] | 1 << sorts[3]) == 15) {
                for (int many = 1; many <= 4; many++) {
                    ordered(s, signs, sorts, many);
                }
            }
        }
    }

    private static void ordered(Sentences s, String signs, int[] sorts, int many) {
        LeftShoes x = new LeftShoes();
        StringBuilder text = new StringBuilder();
        int[] want = new int[6];
        for (int k = 0; k < many; k++) {
            text.append(signs.charAt(sorts[k])).append(5 + k);
            want[sorts[k]] = 5 + k;
        }
        s.is("taxes of " + text, Text.taxes(x, text.toString()), many);
        taxIs(s, x, text.toString(), want);
    }

    private static void taxEachOnce(Sentences s) {
        s.terms("each once,");
        tax(s, "p1p1", -22);
        tax(s, "s1s2", -22);
        tax(s, "c1c2", -22);
        tax(s, "k1k2", -22);
        tax(s, "p1s1p2", -24);
        tax(s, "p1s1c1k1", 4);
        tax(s, "p1s1c1k1k1", -28);
        tax(s, "p1s1c1s1", -26);
    }

    private static void taxDigit(Sentences s) {
        s.terms("each with a digit (RATE),");
        tax(s, "p", -21);
        tax(s, "ps1", -21);
        tax(s, "p/", -21);
        tax(s, "p0", 1);
        tax(s, "p9", 1);
        tax(s, "p:", -21);
        tax(s, "p10", -22);
        tax(s, "p00", -22);
        tax(s, "p1s", -23);
        tax(s, "p1s2ck4", -25);
        tax(s, "p1s2c3kf1", -27);
        tax(s, "p-1", -21);
    }

    private static void taxFine(Sentences s) {
        s.terms("then perhaps f and a number (FINE):");
        int[] fines = {0, 1, 9, 10, 98, 99};
        for (int fine : fines) {
            LeftShoes x = new LeftShoes();
            s.is("f" + fine, Text.taxes(x, "k1f" + fine), 1);
            taxIs(s, x, "f" + fine, 0, 0, 0, 1, fine, 0);
        }
        tax(s, "k1f", -23);
        tax(s, "k1fx", -23);
        tax(s, "k1f-1", -23);
        tax(s, "k1f100", -23);
        tax(s, "k1f999", -23);
        tax(s, "k1f2147483648", -23);
        tax(s, "k1f4294967297", -23);
        tax(s, "k1f18446744073709551617", -23);
        tax(s, "k1f5f5", -24);
        tax(s, "k1f5p1", -24);
        tax(s, "k1f5l", -24);
        tax(s, "p1s1c1k1f99", 4);
    }

    private static void taxStays(Sentences s) {
        s.terms("what is not told stays.");
        LeftShoes x = new LeftShoes();
        Text.taxes(x, "rp1s2c3k4f56");
        taxIs(s, x, "all", 1, 2, 3, 4, 56, 1);
        Text.taxes(x, "c9");
        taxIs(s, x, "c9", 1, 2, 9, 4, 56, 1);
        Text.taxes(x, "lp0");
        taxIs(s, x, "lp0", 0, 2, 9, 4, 56, 0);
        Text.taxes(x, "k0s0f0");
        taxIs(s, x, "k0s0f0", 0, 0, 9, 0, 0, 0);
        for (int what = 0; what < 6; what++) {
            x.tax(what, 1);
        }
        Text.taxes(x, "s8");
        taxIs(s, x, "s8, as the calls of tax() left it", 1, 8, 1, 1, 1, 1);
        x.image();
        Text.taxes(x, "lp9s9c9k9f99");
        x.restore();
        Text.taxes(x, "s7");
        taxIs(s, x, "s7, as restore() left it", 1, 7, 1, 1, 1, 1);
    }

    private static void roadMiles(Sentences s) {
        s.terms("A ROAD is a TEXT: 9 MILES with , between:");
        road(s, EIGHT + "9", 45);
        road(s, "0,0,0,0,0,0,0,0,0", 0);
        road(s, "9,9,9,9,9,9,9,9,9", 81);
        road(s, "1,2,3,4,5,6,7,8", -35);
        road(s, EIGHT, -36);
        road(s, EIGHT + "9,", -37);
        road(s, EIGHT + "9,1", -37);
        road(s, "," + EIGHT + "9", -20);
        road(s, "1,,2,3,4,5,6,7,8,9", -22);
        road(s, "1;2", -21);
        road(s, "1", -21);
        LeftShoes x = new LeftShoes();
        Text.roads(x, EIGHT + "9");
        for (int mile = 0; mile < 9; mile++) {
            s.is("MUD of " + mile, x.road(mile, 0, 0), mile + 1);
        }
    }

    private static void roadMud(Sentences s) {
        s.terms("a digit (MUD),");
        road(s, "", -20);
        road(s, "w1,", -20);
        road(s, "10," + EIGHT, -21);
        road(s, EIGHT + "09", -37);
        road(s, EIGHT + "x", -36);
        road(s, EIGHT + "/", -36);
        road(s, EIGHT + ":", -36);
        road(s, EIGHT + "0", 36);
        road(s, EIGHT + "w1", -36);
    }

    private static void roadWatched(Sentences s) {
        s.terms("perhaps w and a number (WATCHED; 0).");
        for (int watched = 0; watched <= 16; watched++) {
            LeftShoes x = new LeftShoes();
            s.is("w" + watched, Text.roads(x, EIGHT + "9w" + watched), 45);
            s.is("WATCHED", x.road(8, 1, 5), watched);
            s.is("not told", x.road(7, 1, 5), 0);
            s.is("all again", Text.roads(x, "0w" + watched + ",0,0,0,0,0,0,0,0"), 0);
            s.is("WATCHED", x.road(0, 1, 0), watched);
            s.is("it was 5, and is not told", x.road(7, 1, 0), 0);
            s.is("it was 5, and is not told", x.road(8, 1, 0), 0);
        }
        road(s, EIGHT + "9w17", -38);
        road(s, EIGHT + "9w", -38);
        road(s, EIGHT + "9wx", -38);
        road(s, EIGHT + "9w-1", -38);
        road(s, EIGHT + "9w4294967296", -38);
        road(s, EIGHT + "9w1w1", -39);
        road(s, "0w,", -22);
        road(s, "0w17,0", -22);
    }

    private static void faults(Sentences s) {
        s.terms("FAULTS: -20 less the place of the first byte (behind blanks) that can't stand there");
        tax(s, "x", -20);
        tax(s, "  x", -22);
        tax(s, "p  x", -23);
        tax(s, "p1  x", -24);
        tax(s, "p1f  x", -25);
        tax(s, "p1f1  x", -26);
        tax(s, "xx", -20);
        road(s, "   x", -23);
        road(s, "1   x", -24);
        road(s, "1 w  x", -25);
        road(s, "1 w 1  x", -27);
        road(s, EIGHT + "9   x", -40);

        s.terms("(the end: how many bytes there are);");
        tax(s, "", -20);
        tax(s, "   ", -23);
        tax(s, " ".repeat(60), -80);
        tax(s, "l  ", -23);
        tax(s, "p ", -22);
        tax(s, "p1f", -23);
        tax(s, "p1" + " ".repeat(57) + "f", -80);
        road(s, "", -20);
        road(s, "1 ", -22);
        road(s, "1,  ", -24);
        road(s, "1w ", -23);
        road(s, " ".repeat(60), -80);
    }

    private static void blanks(Sentences s) {
        s.terms("bytes 32 count for nothing,");
        LeftShoes x = new LeftShoes();
        s.is("a TAX", Text.taxes(x, "  r  k  7   c 6  s 5 p    4   f   32   "), 4);
        taxIs(s, x, "blanks", 4, 5, 6, 7, 32, 1);
        s.is("a ROAD", Text.roads(x, "  1  w  16  ,2 , 3, 4,5  , 6w 1 ,7,8,  9  w  02  "), 45);
        s.is("WATCHED of 0", x.road(0, 1, 0), 16);
        s.is("WATCHED of 5", x.road(5, 1, 0), 1);
        s.is("WATCHED of 8", x.road(8, 1, 0), 2);
        tax(s, " ".repeat(58) + "p1", 1);
        tax(s, "p1" + " ".repeat(58), 1);

        s.terms("but end a number;");
        tax(s, "p1f1 2", -25);
        tax(s, "p1f 0 0", -26);
        tax(s, "p1f9 9", -25);
        road(s, "0w1 6," + EIGHT, -24);
        road(s, EIGHT + "9w 0 1", -41);
    }

    private static void numbers(Sentences s) {
        s.terms("a number may have 0s ahead;");
        LeftShoes x = new LeftShoes();
        s.is("FINE", Text.taxes(x, "p1f" + "0".repeat(55) + "99"), 1);
        taxIs(s, x, "0s", 1, 0, 0, 0, 99, 0);
        s.is("0s alone", Text.taxes(x, "p1f000"), 1);
        taxIs(s, x, "0s alone", 1, 0, 0, 0, 0, 0);
        s.is("WATCHED", Text.roads(x, EIGHT + "9w" + "0".repeat(40) + "16"), 45);
        s.is("WATCHED of 8", x.road(8, 1, 0), 16);

        s.terms("of a number that may not be its first byte.");
        tax(s, "p1f100", -23);
        tax(s, "p1f  100", -25);
        tax(s, "p1f0100", -23);
        tax(s, "p1f100x", -23);
        tax(s, "p1f990", -23);
        tax(s, "p1f" + "9".repeat(57), -23);
        road(s, EIGHT + "9w17", -38);
        road(s, EIGHT + "9w  017", -40);
        road(s, EIGHT + "9w160", -38);
    }

    private static void taxes(Sentences s) {
        s.promise(11, "THE TAPE, which is empty then (by a FAULT, too), is a TAX: how many RATES.");
        LeftShoes x = new LeftShoes();
        s.is("an empty one", x.taxes(), -20);
        s.is("one RATE", Text.taxes(x, "s4"), 1);
        s.is("THE TAPE is empty then", x.taxes(), -20);
        s.is("four", Text.taxes(x, "s4k4c4p4"), 4);
        s.is("a FAULT", Text.taxes(x, "s4k"), -23);
        s.is("THE TAPE is empty then, too", x.taxes(), -20);
        s.is("a first byte", x.type('p', 1), 1);
        s.is("60 bytes", Text.taxes(x, "3" + " ".repeat(58)), 1);
        s.is("room for 60 more", Text.taxes(x, "k" + " ".repeat(58) + "3"), 1);

        s.promise(11, "A FAULT (all else stays).");
        String[] texts = {"", "r", "rp", "rp5s6c7k8f9x", "rp5f100", "lp5p6", "rk1s1c1p1k1", "x"};
        int[] faults = {-20, -21, -22, -31, -24, -23, -29, -20};
        for (int k = 0; k < texts.length; k++) {
            LeftShoes y = new LeftShoes();
            Text.taxes(y, "lp1s2c3k4f56");
            y.road(3, 0, 7);
            s.is(texts[k], Text.taxes(y, texts[k]), faults[k]);
            taxIs(s, y, texts[k], 1, 2, 3, 4, 56, 0);
            s.is("MUD", y.road(3, 0, 0), 7);
            Text.taxes(y, "k9");
            taxIs(s, y, "k9, behind the FAULT of " + texts[k], 1, 2, 3, 9, 56, 0);
        }
    }

    private static void roads(Sentences s) {
        s.promise(12, "THE TAPE, which is empty then (by a FAULT, too), is a ROAD: all MUD together.");
        LeftShoes x = new LeftShoes();
        s.is("an empty one", x.roads(), -20);
        s.is("least", Text.roads(x, "0,0,0,0,0,0,0,0,0w16"), 0);
        s.is("THE TAPE is empty then", x.roads(), -20);
        s.is("most", Text.roads(x, "9,9,9,9w1,9,9,9,9,9"), 81);
        s.is("a FAULT", Text.roads(x, "1,2,p"), -24);
        s.is("THE TAPE is empty then, too", x.roads(), -20);
        s.is("a TAX is no ROAD", Text.roads(x, "p1"), -20);
        s.is("nor a ROAD a TAX", Text.taxes(x, EIGHT + "9"), -20);
        s.is("by that it is empty, too", x.type(' ', 1), 1);

        s.promise(12, "A FAULT (all else stays).");
        String[] texts = {"", "9w1", "9w1,9w2,9w3,9w4,9w5,9w6,9w7,9w8,9w9x", "9w1,9w17", "9,9,9,9,9,9,9,9", "x"};
        int[] faults = {-20, -23, -55, -26, -35, -20};
        for (int k = 0; k < texts.length; k++) {
            LeftShoes y = new LeftShoes();
            Text.roads(y, "0w8,1w7,2w6,3w5,4w4,5w3,6w2,7w1,8w0");
            y.tax(4, 33);
            s.is(texts[k], Text.roads(y, texts[k]), faults[k]);
            for (int mile = 0; mile < 9; mile++) {
                s.is("MUD of " + mile, y.road(mile, 0, 0), mile);
                s.is("WATCHED of " + mile, y.road(mile, 1, 0), 8 - mile);
            }
            s.is("FINE", y.tax(4, 0), 33);
        }
    }
}
