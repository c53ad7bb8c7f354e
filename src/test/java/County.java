/** Counties to call, and all that can be seen of one. */
final class County {
    private County() {
    }

    /** Four people, seven shoes, a tax, a road, paths, two buyers, an image of less, a tape, three sheets. */
    static LeftShoes rich() {
        LeftShoes x = new LeftShoes();
        x.person(20, 0);
        x.person(50, 1);
        shoes(x, new int[][] {{0, 0, 0, 30}, {0, 1, 0, 40}, {1, 0, 2, 20}});
        x.stamp(2, true);
        x.buyer(2, 30);
        x.image();
        x.person(60, 2);
        x.person(0, 0);
        shoes(x, new int[][] {{0, 1, 1, 41}, {2, 1, 3, 50}, {3, 0, 1, 9}, {0, 0, 3, 99}});
        x.stamp(0, true);
        Text.taxes(x, "p9s2c3k4 f7");
        Text.roads(x, "0,1w2,2,3w16,4,5,6w1,7,9");
        x.path(0, 1, 4);
        x.path(1, 2, 0);
        x.path(7, 2, 15);
        x.buyer(3, 10);
        Text.put(x, "k8");
        sheet(x, 0, 2, 2, 3, 2, 7, 12);
        sheet(x, 1, 1, 0, 1, 0);
        x.sheet(2, 0, 0);
        return x;
    }

    /** Nobody can come, no shoe, no buyer, no byte. */
    static LeftShoes full() {
        LeftShoes x = new LeftShoes();
        for (int k = 0; k < 5; k++) {
            x.person(k, k % 3);
        }
        for (int k = 0; k < 16; k++) {
            x.shoe(k % 5, k % 2, k % 4, 99 - k);
        }
        for (int k = 0; k < 6; k++) {
            x.buyer(1 + k, 10 * (1 + k));
        }
        Text.put(x, "p1s2c3k4f5" + " ".repeat(50));
        return x;
    }

    static void shoes(LeftShoes x, int[][] shoes) {
        for (int[] s : shoes) {
            x.shoe(s[0], s[1], s[2], s[3]);
        }
    }

    /** A SHEET holds these. */
    static void sheet(LeftShoes x, int sheet, int lane, int... items) {
        x.sheet(sheet, lane, items.length);
        for (int i = 0; i < items.length; i++) {
            x.item(sheet, lane, i, items[i]);
        }
    }

    /** All that can be seen of it, which is spoilt by that: what is now, the tape, sheets, the image. */
    static String seen(LeftShoes x) {
        StringBuilder all = new StringBuilder();
        world(x, all);
        all.append("tape ").append(x.type(' ', 1)).append(' ').append(x.taxes()).append(' ');
        taxAndRoad(x, all);
        for (int sheet = 0; sheet < 4; sheet++) {
            sheet(x, sheet, all);
        }
        int restored = x.restore();
        all.append("image ").append(restored).append(' ');
        if (restored == 1) {
            world(x, all);
        }
        return all.toString();
    }

    /** What can be seen of it but for the tape, sheets, the image. */
    static String now(LeftShoes x) {
        StringBuilder all = new StringBuilder();
        world(x, all);
        return all.toString();
    }

    private static void world(LeftShoes x, StringBuilder all) {
        for (int what = 0; what < 6; what++) {
            all.append(x.count(what)).append(' ');
        }
        all.append("people ");
        for (int k = 0; k < 5; k++) {
            all.append(x.of(k, 0)).append('/').append(x.of(k, 1)).append(' ');
        }
        all.append("shoes ");
        int shoes = x.count(1);
        for (int k = 0; k < shoes; k++) {
            for (int what = 0; what < 5; what++) {
                all.append(x.told(k, what)).append(what < 4 ? '/' : ' ');
            }
        }
        all.append("market ");
        for (int supply = 0; supply <= 30; supply += 5) {
            all.append(x.market(1, supply, 1)).append(' ');
        }
        taxAndRoad(x, all);
    }

    private static void taxAndRoad(LeftShoes x, StringBuilder all) {
        all.append("tax ");
        for (int what = 0; what < 6; what++) {
            int was = x.tax(what, 0);
            x.tax(what, was);
            all.append(was).append(' ');
        }
        all.append("road ");
        for (int mile = 0; mile < 9; mile++) {
            for (int what = 0; what < 2; what++) {
                int was = x.road(mile, what, 0);
                x.road(mile, what, was);
                all.append(was).append(what == 0 ? '/' : ' ');
            }
        }
        all.append("paths ");
        for (int other = 1; other < 8; other++) {
            all.append(x.unseen(0, other, 0)).append('/').append(x.unseen(0, other, 1)).append(' ');
        }
    }

    private static void sheet(LeftShoes x, int sheet, StringBuilder all) {
        all.append("sheet ");
        for (int lane = 0; lane < 3; lane++) {
            for (int i = 0; i < 5; i++) {
                int ways = x.prints(sheet, lane, i, 1, 0, 1);
                all.append(ways).append(' ');
                if (ways == LeftShoes.NULL || ways == LeftShoes.CAST) {
                    break;
                }
                all.append(x.book(sheet, lane, i, 1)).append(' ');
            }
        }
        all.append(x.drop(sheet)).append(' ');
    }
}
