import java.util.Random;

/** Runs of calls with numbers drawn from a seed, each answer beside the model's. */
public final class ModelTest {
    private static final int RUNS = 120, CALLS = 512;

    /** A call's name, how often it is drawn, and what its numbers are like. */
    private static final String[][] CALLED = {
        {"person", "5", "purse", "feet"}, {"shoe", "14", "person", "foot", "sort", "soles"}, {"told", "3", "shoe", "what4"},
        {"stamp", "4", "shoe", "foot"}, {"give", "2", "shoe", "person"}, {"of", "3", "person", "what3"},
        {"tax", "6", "what5", "rate"}, {"road", "9", "mile", "foot", "rate"}, {"type", "0", "word", "n8"}, {"taxes", "1"},
        {"roads", "1"}, {"count", "3", "what5"}, {"minutes", "14", "going", "mile", "shoe", "shoe"},
        {"cheapest", "5", "person", "shoe", "shoe", "shoe", "limit", "walk"},
        {"go", "2", "person", "shoe", "shoe", "shoe", "limit"}, {"path", "7", "ford", "ford", "watched"},
        {"unseen", "4", "ford", "ford", "foot"}, {"paths", "4", "ford", "ford"}, {"buyer", "3", "wants", "price"},
        {"market", "6", "price", "supply", "foot"}, {"fair", "1"}, {"brothers", "4", "set", "foot"}, {"image", "1"},
        {"restore", "1"}, {"prints", "8", "sheet", "lane", "item", "few", "person", "foot"},
        {"odds", "8", "sheet", "lane", "item", "few", "person", "foot"}, {"book", "4", "sheet", "lane", "item", "few"},
        {"sheet", "3", "sheet", "lane", "n24"}, {"drop", "1", "sheet"}, {"item", "14", "sheet", "lane", "item", "value"},
        {"copy", "6", "sheet", "item", "sheet", "item", "few"}};

    private static final int[] ODD = {-1, -2, 0, 1, 16, 24, 25, 60, 99, 100, 127, 128, 999, 10000, 65536, Integer.MAX_VALUE,
        Integer.MIN_VALUE, Integer.MAX_VALUE - 1, Integer.MIN_VALUE + 1};

    private final Random random;
    private final LeftShoes x = new LeftShoes();
    private final Model model = new Model();
    /** The lane and length that a sheet was last given, so that most calls find it. */
    private final int[] lanes = new int[4];
    private final int[] lengths = new int[4];

    private ModelTest(long seed) {
        random = new Random(seed);
    }

    public static void main(String[] args) {
        Due due = new Due();
        for (int run = 0; run < RUNS; run++) {
            due.of("all promises: run by seed " + run);
            new ModelTest(run).play(due);
        }
        for (int run = 0; run < RUNS; run++) {
            due.of("promise 15, 16: walks by seed " + run);
            new ModelTest(1000 + run).walks(due);
        }
        due.of("promise 11, 12: texts");
        new ModelTest(5000).texts(due);
        due.end();
    }

    private void call(Due due, String name, long... a) {
        StringBuilder text = new StringBuilder(name).append('(');
        for (int k = 0; k < a.length; k++) {
            text.append(k == 0 ? "" : ", ").append(a[k]);
        }
        int got;
        try {
            got = answer(name, a);
        } catch (RuntimeException thrown) {
            due.holds(text + ") throws nothing, but " + thrown, false);
            return;
        }
        due.is(text.append(')').toString(), got, model.call(name, a));
    }

    private void play(Due due) {
        int all = 0;
        for (String[] called : CALLED) {
            all += Integer.parseInt(called[1]);
        }
        for (int k = 0; k < CALLS; k++) {
            if (random.nextInt(40) == 0) {
                text(due, random.nextBoolean());
                continue;
            }
            int drawn = random.nextInt(all);
            int at = 0;
            while (drawn >= Integer.parseInt(CALLED[at][1])) {
                drawn -= Integer.parseInt(CALLED[at][1]);
                at++;
            }
            String[] called = CALLED[at];
            long[] a = new long[called.length - 2];
            for (int p = 0; p < a.length; p++) {
                a[p] = random.nextInt(60) == 0 ? ODD[random.nextInt(ODD.length)] : number(called[p + 2], a, p);
            }
            call(due, called[0], a);
            if (called[0].equals("sheet") && a[0] >= 0 && a[0] < 4 && a[1] >= 0 && a[1] < 3 && a[2] >= 0 && a[2] <= 24) {
                lanes[(int) a[0]] = (int) a[1];
                lengths[(int) a[0]] = (int) a[2];
            }
        }
    }

    private int sheetOf(long[] a, int p) {
        long sheet = p > 0 ? a[p > 2 && p == 3 ? 2 : 0] : 0;
        return sheet >= 0 && sheet < 4 ? (int) sheet : 0;
    }

    private long number(String like, long[] a, int p) {
        switch (like) {
            case "purse": return random.nextInt(60);
            case "feet": return Math.max(0, random.nextInt(5) - 2);
            case "person": return random.nextInt(random.nextInt(8) == 0 ? 6 : 3);
            case "foot": return random.nextInt(2);
            case "sort": return random.nextInt(4);
            case "soles": return random.nextInt(random.nextBoolean() ? 100 : 20);
            case "shoe": return random.nextInt(17) - 1;
            case "what3": return random.nextInt(4);
            case "what4": return random.nextInt(5);
            case "what5": return random.nextInt(6);
            case "rate": return random.nextInt(10);
            case "mile": return random.nextInt(9);
            case "going": return random.nextInt(4);
            case "limit": return 150 + random.nextInt(300);
            case "walk": return random.nextInt(11) - 2;
            case "ford": return random.nextInt(8);
            case "watched": return random.nextInt(17) - 1;
            case "wants": return 1 + random.nextInt(9);
            case "price": return 1 + random.nextInt(99);
            case "supply": return random.nextInt(random.nextBoolean() ? 20 : 61);
            case "set": return random.nextInt(random.nextInt(8) == 0 ? 40 : 8);
            case "sheet": return random.nextInt(4);
            case "lane": return random.nextInt(10) == 0 || a.length == 3 ? random.nextInt(3) : lanes[sheetOf(a, p)];
            case "item": return random.nextInt(lengths[sheetOf(a, p)] + 1);
            case "few": return random.nextInt(8) == 0 ? random.nextInt(14) : 1 + random.nextInt(3);
            case "n24": return random.nextInt(8) == 0 ? random.nextInt(27) - 1 : 8 + random.nextInt(17);
            case "value": return random.nextInt(12) == 0 ? random.nextInt() : random.nextInt(10);
            case "n8": return 1 + random.nextInt(8);
            default: return random.nextLong();
        }
    }

    private void text(Due due, boolean isTax) {
        String signs = isTax ? "lrpsckf0123456789   " : "0123456789,,,,,,www   ";
        StringBuilder text = new StringBuilder();
        if (isTax) {
            taxText(text);
        } else {
            roadText(text);
        }
        int spoils = random.nextInt(3);
        for (int k = 0; k < spoils && text.length() > 0; k++) {
            int at = random.nextInt(text.length());
            char sign = signs.charAt(random.nextInt(signs.length()));
            switch (random.nextInt(4)) {
                case 0: text.setCharAt(at, sign); break;
                case 1: text.deleteCharAt(at); break;
                case 2: text.insert(at, sign); break;
                default: text.setLength(at); break;
            }
        }
        for (int k = 0; k < text.length(); k += 8) {
            int n = Math.min(8, text.length() - k);
            long w = 0;
            for (int b = 0; b < n; b++) {
                w = w << 8 | text.charAt(k + b);
            }
            call(due, "type", w, n);
        }
        call(due, random.nextInt(20) == 0 != isTax ? "taxes" : "roads");
        lookAtAll(due);
    }

    private String blank() {
        return random.nextInt(5) == 0 ? " ".repeat(1 + random.nextInt(2)) : "";
    }

    private void taxText(StringBuilder text) {
        text.append(blank()).append(new String[] {"", "l", "r"}[random.nextInt(3)]).append(blank());
        StringBuilder left = new StringBuilder("psck");
        int rates = 1 + random.nextInt(4);
        for (int k = 0; k < rates; k++) {
            int at = random.nextInt(left.length());
            text.append(left.charAt(at)).append(blank()).append(random.nextInt(10)).append(blank());
            left.deleteCharAt(at);
        }
        if (random.nextBoolean()) {
            text.append('f').append(blank()).append("0".repeat(random.nextInt(4)))
                    .append(random.nextInt(random.nextInt(4) == 0 ? 2000 : 100)).append(blank());
        }
    }

    private void roadText(StringBuilder text) {
        for (int k = 0; k < 9; k++) {
            text.append(k == 0 ? "" : ",").append(blank()).append(random.nextInt(10));
            if (random.nextInt(3) == 0) {
                text.append('w').append(blank()).append(random.nextInt(4) == 0 ? "0" : "")
                        .append(random.nextInt(random.nextInt(8) == 0 ? 30 : 17));
            }
        }
    }

    private void lookAtAll(Due due) {
        for (int what = 0; what < 6; what++) {
            call(due, "tax", what, random.nextInt(2));
        }
        for (int mile = 0; mile < 9; mile++) {
            call(due, "road", mile, 0, random.nextInt(10));
            call(due, "road", mile, 1, random.nextInt(17));
        }
    }

    private void texts(Due due) {
        for (int k = 0; k < 6000; k++) {
            text(due, k % 2 == 0);
        }
    }

    /** At times of miles that are nearly alike: then many walks are as cheap, or as long. */
    private void drawRoad(Due due) {
        int muds = random.nextBoolean() ? 10 : 1 + random.nextInt(3);
        int watchers = random.nextBoolean() ? 17 : 1 + random.nextInt(4);
        for (int mile = 0; mile < 9; mile++) {
            call(due, "road", mile, 0, random.nextInt(muds));
            call(due, "road", mile, 1, random.nextInt(watchers));
        }
    }

    /** Shoes that make walks of every kind, and limits round what they take. */
    private void walks(Due due) {
        call(due, "person", 300, 0);
        call(due, "person", 300, 1 + random.nextInt(2));
        for (int k = 0; k < 14; k++) {
            call(due, "shoe", k % 3 == 2 ? 1 : 0, random.nextInt(2), random.nextInt(4),
                    random.nextBoolean() ? 99 : random.nextInt(14));
            call(due, "stamp", k, random.nextInt(2));
        }
        for (int k = 0; k < 5; k++) {
            drawRoad(due);
            call(due, "tax", 4, random.nextInt(random.nextBoolean() ? 100 : 4));
            call(due, "tax", random.nextInt(4), random.nextInt(10));
            int taxed = random.nextInt(2);
            call(due, "tax", 5, taxed);
            for (int m = 0; m < 3; m++) {
                long a = shoeFor(0, taxed);
                long b = shoeFor(0, 1 - taxed);
                long c = random.nextBoolean() ? -1 : shoeFor(0, 1 - taxed);
                long limit = 170 + random.nextInt(250);
                long what = random.nextInt(11) - 2;
                call(due, "cheapest", 0, a, b, c, limit, what);
                call(due, "cheapest", 0, a, b, c, limit, -1);
                call(due, "cheapest", 0, a, b, c, limit, -2);
                call(due, "cheapest", 1, -1, shoeFor(1, model.call("of", new long[] {1, 1}) - 1), -1, 999, -1);
                call(due, "go", 1, -1, shoeFor(1, model.call("of", new long[] {1, 1}) - 1), -1, 999);
                call(due, "go", 0, a, b, c, limit);
                call(due, "of", 0, 0);
                call(due, "count", 3);
            }
        }
    }

    /** Mostly one of his for that foot, at times none. */
    private long shoeFor(int person, int foot) {
        for (int tries = 0; tries < 40; tries++) {
            int shoe = random.nextInt(14);
            if (model.call("told", new long[] {shoe, 4}) == person && model.call("told", new long[] {shoe, 0}) == foot) {
                return random.nextInt(6) == 0 ? -1 : shoe;
            }
        }
        return -1;
    }

    private int answer(String name, long[] a) {
        int[] v = new int[a.length];
        for (int k = 0; k < a.length; k++) {
            v[k] = (int) a[k];
        }
        switch (name) {
            case "person": return x.person(v[0], v[1]);
            case "shoe": return x.shoe(v[0], v[1], v[2], v[3]);
            case "told": return x.told(v[0], v[1]);
            case "stamp": return x.stamp(v[0], v[1] != 0);
            case "give": return x.give(v[0], v[1]);
            case "of": return x.of(v[0], v[1]);
            case "tax": return x.tax(v[0], v[1]);
            case "road": return x.road(v[0], v[1], v[2]);
            case "type": return x.type(a[0], v[1]);
            case "taxes": return x.taxes();
            case "roads": return x.roads();
            case "count": return x.count(v[0]);
            case "minutes": return x.minutes(v[0], v[1], v[2], v[3]);
            case "cheapest": return x.cheapest(v[0], v[1], v[2], v[3], v[4], v[5]);
            case "go": return x.go(v[0], v[1], v[2], v[3], v[4]);
            case "path": return x.path(v[0], v[1], v[2]);
            case "unseen": return x.unseen(v[0], v[1], v[2]);
            case "paths": return x.paths(v[0], v[1]);
            case "buyer": return x.buyer(v[0], v[1]);
            case "market": return x.market(v[0], v[1], v[2]);
            case "fair": return x.fair();
            case "brothers": return x.brothers(v[0], v[1]);
            case "image": return x.image();
            case "restore": return x.restore();
            case "prints": return x.prints(v[0], v[1], v[2], v[3], v[4], v[5]);
            case "odds": return x.odds(v[0], v[1], v[2], v[3], v[4], v[5]);
            case "book": return x.book(v[0], v[1], v[2], v[3]);
            case "sheet": return x.sheet(v[0], v[1], v[2]);
            case "drop": return x.drop(v[0]);
            case "item": return x.item(v[0], v[1], v[2], v[3]);
            case "copy": return x.copy(v[0], v[1], v[2], v[3], v[4]);
            default: throw new IllegalArgumentException(name);
        }
    }
}
