import java.math.BigInteger;
import java.util.ArrayList;
import java.util.HashSet;
import java.util.List;
import java.util.Set;
import java.util.TreeMap;
import java.util.regex.Matcher;
import java.util.regex.Pattern;

/** The document once more, by plain means: every row of a walk, every way, texts by their regular expressions. */
final class Model {
    private static final int BAD = -1, NOT = -2, FULL = -3, NONE = -4, NULL = -11, CAST = -12, INDEX = -13, SIZE = -14;

    private static final class Refused extends RuntimeException {
        private static final long serialVersionUID = 1L;
        final int code;

        Refused(int code) {
            super(null, null, false, false);
            this.code = code;
        }
    }

    private static final class Person {
        int purse;
        int feet;
    }

    private static final class Shoe {
        int foot;
        int sort;
        int soles;
        int stamped;
        int owner;
    }

    private static final class Sheet {
        int lane;
        int[] items;
    }

    private static final class State {
        final List<Person> people = new ArrayList<>();
        final List<Shoe> shoes = new ArrayList<>();
        final int[] tax = new int[6];
        final int[][] road = new int[9][2];
        final TreeMap<String, Integer> paths = new TreeMap<>();
        final List<int[]> buyers = new ArrayList<>();

        State copy() {
            State c = new State();
            for (Person p : people) {
                Person q = new Person();
                q.purse = p.purse;
                q.feet = p.feet;
                c.people.add(q);
            }
            for (Shoe s : shoes) {
                Shoe q = new Shoe();
                q.foot = s.foot;
                q.sort = s.sort;
                q.soles = s.soles;
                q.stamped = s.stamped;
                q.owner = s.owner;
                c.shoes.add(q);
            }
            System.arraycopy(tax, 0, c.tax, 0, 6);
            for (int m = 0; m < 9; m++) {
                c.road[m] = road[m].clone();
            }
            c.paths.putAll(paths);
            for (int[] b : buyers) {
                c.buyers.add(b.clone());
            }
            return c;
        }
    }

    private State s = new State();
    private State kept;
    private String tape = "";
    private final Sheet[] sheets = new Sheet[4];

    /** What a call answers: its name, its arguments. */
    int call(String name, long[] a) {
        try {
            int[] v = new int[a.length];
            for (int k = 0; k < a.length; k++) {
                v[k] = (int) a[k];
            }
            switch (name) {
                case "person": return person(v[0], v[1]);
                case "shoe": return shoe(v[0], v[1], v[2], v[3]);
                case "told": return told(v[0], v[1]);
                case "stamp": return stamp(v[0], v[1] != 0);
                case "give": return give(v[0], v[1]);
                case "of": return of(v[0], v[1]);
                case "tax": return tax(v[0], v[1]);
                case "road": return road(v[0], v[1], v[2]);
                case "type": return type(a[0], v[1]);
                case "taxes": return taxes();
                case "roads": return roads();
                case "count": return count(v[0]);
                case "minutes": return minutes(v[0], v[1], v[2], v[3]);
                case "cheapest": return cheapest(v[0], v[1], v[2], v[3], v[4], v[5]);
                case "go": return go(v[0], v[1], v[2], v[3], v[4]);
                case "path": return path(v[0], v[1], v[2]);
                case "unseen": return unseen(v[0], v[1], v[2]);
                case "paths": return paths(v[0], v[1]);
                case "buyer": return buyer(v[0], v[1]);
                case "market": return market(v[0], v[1], v[2]);
                case "fair": return fair();
                case "brothers": return brothers(v[0], v[1]);
                case "image": kept = s.copy(); return 1;
                case "restore": return restore();
                case "prints": return prints(v[0], v[1], v[2], v[3], v[4], v[5]);
                case "odds": return odds(v[0], v[1], v[2], v[3], v[4], v[5]);
                case "book": return book(v[0], v[1], v[2], v[3]);
                case "sheet": return sheet(v[0], v[1], v[2]);
                case "drop": return drop(v[0]);
                case "item": return item(v[0], v[1], v[2], v[3]);
                case "copy": return copy(v[0], v[1], v[2], v[3], v[4]);
                default: throw new IllegalArgumentException(name);
            }
        } catch (Refused refused) {
            return refused.code;
        }
    }

    private static void need(boolean so, int code) {
        if (!so) {
            throw new Refused(code);
        }
    }

    private static void within(long v, long least, long most) {
        need(v >= least && v <= most, BAD);
    }

    private Person person(int k) {
        within(k, 0, s.people.size() - 1);
        return s.people.get(k);
    }

    private Shoe shoe(int k) {
        within(k, 0, s.shoes.size() - 1);
        return s.shoes.get(k);
    }

    private int person(int purse, int feet) {
        within(purse, 0, 9999);
        within(feet, 0, 2);
        need(s.people.size() < 5, FULL);
        Person p = new Person();
        p.purse = purse;
        p.feet = feet;
        s.people.add(p);
        return s.people.size() - 1;
    }

    private int shoe(int owner, int foot, int sort, int soles) {
        person(owner);
        within(foot, 0, 1);
        within(sort, 0, 3);
        within(soles, 0, 99);
        need(s.shoes.size() < 16, FULL);
        Shoe q = new Shoe();
        q.owner = owner;
        q.foot = foot;
        q.sort = sort;
        q.soles = soles;
        s.shoes.add(q);
        return s.shoes.size() - 1;
    }

    private int told(int shoe, int what) {
        Shoe q = shoe(shoe);
        within(what, 0, 4);
        return new int[] {q.foot, q.sort, q.soles, q.stamped, q.owner}[what];
    }

    private int stamp(int shoe, boolean is) {
        Shoe q = shoe(shoe);
        int was = q.stamped;
        q.stamped = is ? 1 : 0;
        return was;
    }

    private int give(int shoe, int to) {
        Shoe q = shoe(shoe);
        person(to);
        int was = q.owner;
        q.owner = to;
        return was;
    }

    private int of(int person, int what) {
        Person p = person(person);
        within(what, 0, 3);
        int[] has = new int[2];
        for (Shoe q : s.shoes) {
            if (q.owner == person) {
                has[q.foot]++;
            }
        }
        return new int[] {p.purse, p.feet, has[0], has[1]}[what];
    }

    private int tax(int what, int v) {
        within(what, 0, 5);
        within(v, 0, what == 5 ? 1 : what == 4 ? 99 : 9);
        int was = s.tax[what];
        s.tax[what] = v;
        return was;
    }

    private int road(int mile, int what, int v) {
        within(mile, 0, 8);
        within(what, 0, 1);
        within(v, 0, what == 0 ? 9 : 16);
        int was = s.road[mile][what];
        s.road[mile][what] = v;
        return was;
    }

    private int type(long w, int n) {
        within(n, 1, 8);
        StringBuilder more = new StringBuilder();
        for (int k = n - 1; k >= 0; k--) {
            long b = (w >>> (8 * k)) % 256;
            b = (b + 256) % 256;
            within(b, 32, 126);
            more.append((char) b);
        }
        need(tape.length() + n <= 60, FULL);
        tape += more;
        return tape.length();
    }

    private static void orders(String done, String left, List<String> all) {
        if (!done.isEmpty()) {
            StringBuilder one = new StringBuilder();
            for (char c : done.toCharArray()) {
                one.append(c).append(" *[0-9] *");
            }
            all.add(one.toString());
        }
        for (int k = 0; k < left.length(); k++) {
            orders(done + left.charAt(k), left.substring(0, k) + left.substring(k + 1), all);
        }
    }

    private static Pattern taxPattern() {
        List<String> all = new ArrayList<>();
        orders("", "pskc", all);
        return Pattern.compile(" *(?:[lr] *)?(?:" + String.join("|", all) + ")(?:f *0*[0-9]{1,2} *)?");
    }

    private static Pattern roadPattern() {
        String mile = " *[0-9] *(?:w *0*(?:[0-9]|1[0-6]) *)?";
        return Pattern.compile(mile + ("," + mile).repeat(8));
    }

    private static final Pattern TAX = taxPattern(), ROAD = roadPattern();

    private static boolean canGoOn(Pattern pattern, String begun) {
        Matcher matcher = pattern.matcher(begun);
        return matcher.matches() || matcher.hitEnd();
    }

    /** Refuses a text by its FAULT. */
    private static void read(Pattern pattern, String text) {
        for (int k = 0; k < text.length(); k++) {
            if (!canGoOn(pattern, text.substring(0, k + 1))) {
                int first = k;
                while (Character.isDigit(text.charAt(k)) && first > 0 && Character.isDigit(text.charAt(first - 1))) {
                    first--;
                }
                String ahead = text.substring(0, first).stripTrailing();
                throw new Refused(-20 - (ahead.endsWith("f") || ahead.endsWith("w") ? first : k));
            }
        }
        need(pattern.matcher(text).matches(), -20 - text.length());
    }

    private int taxes() {
        String text = tape;
        tape = "";
        read(TAX, text);
        String signs = text.replaceAll("f *([0-9]+)", "f<$1>").replace(" ", "");
        int rates = 0;
        for (int k = 0; k < signs.length(); k++) {
            char c = signs.charAt(k);
            int sort = "psck".indexOf(c);
            if (sort >= 0) {
                s.tax[sort] = signs.charAt(k + 1) - '0';
                rates++;
            } else if (c == 'l' || c == 'r') {
                s.tax[5] = c == 'l' ? 0 : 1;
            } else if (c == 'f') {
                s.tax[4] = Integer.parseInt(signs.substring(k + 2, signs.indexOf('>')));
            }
        }
        return rates;
    }

    private int roads() {
        String text = tape;
        tape = "";
        read(ROAD, text);
        String[] miles = text.replace(" ", "").split(",");
        int all = 0;
        for (int m = 0; m < 9; m++) {
            String[] parts = miles[m].split("w");
            s.road[m][0] = Integer.parseInt(parts[0]);
            s.road[m][1] = parts.length > 1 ? Integer.parseInt(parts[1]) : 0;
            all += s.road[m][0];
        }
        return all;
    }

    private int count(int what) {
        within(what, 0, 5);
        int stamped = 0;
        int soles = 0;
        for (Shoe q : s.shoes) {
            stamped += q.stamped;
            soles += q.soles;
        }
        return new int[] {s.people.size(), s.shoes.size(), stamped, soles, s.buyers.size(), s.paths.size()}[what];
    }

    private static int minutesOn(int going, int mud, Shoe... worn) {
        int all;
        if (going == 0) {
            all = 20 + mud;
        } else if (going == 1) {
            all = 26 + mud;
        } else if (going == 2) {
            all = 40 + 2 * mud;
        } else {
            all = 30 + 3 * mud;
        }
        for (Shoe q : worn) {
            if (q.sort == 1) {
                all -= 1;
            } else if (q.sort == 2 && mud < 5) {
                all += 1;
            } else if (q.sort == 2) {
                all -= 2;
            }
        }
        return all;
    }

    private int minutes(int going, int mile, int one, int other) {
        within(going, 0, 3);
        within(mile, 0, 8);
        int mud = s.road[mile][0];
        int taxed = s.tax[5];
        if (going == 3) {
            need(one == -1 && other == -1, BAD);
            return minutesOn(3, mud);
        }
        Shoe first = shoe(one);
        need((first.foot == taxed) == (going == 0), BAD);
        if (going == 2) {
            need(other == -1, BAD);
            return minutesOn(2, mud, first);
        }
        Shoe second = shoe(other);
        need(second.foot != taxed && one != other, BAD);
        return minutesOn(going, mud, first, second);
    }

    private static final class Walk {
        int cost;
        int minutes;
        int[] row;
    }

    private Shoe his(int k, int person, int foot) {
        if (k == -1) {
            return null;
        }
        Shoe q = shoe(k);
        need(q.owner == person && q.foot == foot, BAD);
        return q;
    }

    private Walk walk(int person, int a, int b, int c, int limit) {
        Person p = person(person);
        within(limit, 1, 999);
        boolean lone = p.feet != 0;
        int taxed = s.tax[5];
        int free = lone ? p.feet - 1 : 1 - taxed;
        need(!lone || a == -1 && c == -1, BAD);
        Shoe one = his(a, person, taxed);
        Shoe two = his(b, person, free);
        Shoe three = his(c, person, free);
        need(b == -1 || b != c, BAD);
        Shoe[][] worn = {{one, two}, {two, three}, {two}, {}};
        int[][] minutes = new int[4][9];
        int[][] cost = new int[4][9];
        boolean[] can = new boolean[4];
        for (int g = 0; g < 4; g++) {
            can[g] = !lone || g == 2;
            for (Shoe q : worn[g]) {
                can[g] &= q != null;
            }
            for (int m = 0; m < 9 && can[g]; m++) {
                minutes[g][m] = minutesOn(g, s.road[m][0], worn[g]);
                for (Shoe q : worn[g]) {
                    if (q.foot == taxed) {
                        cost[g][m] += q.stamped == 1 ? 16 * s.tax[q.sort] : s.tax[4] * s.road[m][1];
                    }
                }
            }
        }
        Walk best = null;
        int[] row = new int[9];
        for (int code = 0; code < 1 << 18; code++) {
            int all = 0;
            int takes = 0;
            boolean fits = true;
            for (int m = 0; m < 9 && fits; m++) {
                row[m] = code >> 2 * (8 - m) & 3;
                fits = can[row[m]];
                all += minutes[row[m]][m];
                takes += cost[row[m]][m];
            }
            if (fits && all <= limit && (best == null || takes < best.cost || takes == best.cost && all < best.minutes)
                    && (lone || !tires(row)) && solesDo(row, one, two, three)) {
                best = new Walk();
                best.cost = takes;
                best.minutes = all;
                best.row = row.clone();
            }
        }
        need(best != null, NONE);
        return best;
    }

    private static boolean tires(int[] row) {
        int bare = 0;
        int hops = 0;
        for (int g : row) {
            bare += g == 3 ? 1 : 0;
            hops = g == 2 ? hops + 1 : 0;
            if (hops == 3) {
                return true;
            }
        }
        return bare > 4;
    }

    private static int[] taken(int[] row, Shoe... abc) {
        int[] taken = new int[3];
        for (int g : row) {
            taken[0] += g == 0 ? 1 : 0;
            taken[1] += g == 2 ? 2 : g == 3 ? 0 : 1;
            taken[2] += g == 1 ? 1 : 0;
        }
        for (int k = 0; k < 3; k++) {
            taken[k] *= abc[k] != null && abc[k].sort == 3 ? 2 : 1;
        }
        return taken;
    }

    private static boolean solesDo(int[] row, Shoe... abc) {
        int[] taken = taken(row, abc);
        for (int k = 0; k < 3; k++) {
            if (abc[k] != null && abc[k].soles < taken[k]) {
                return false;
            }
        }
        return true;
    }

    private int cheapest(int person, int a, int b, int c, int limit, int what) {
        within(what, -2, 8);
        Walk walk = walk(person, a, b, c, limit);
        return what == -1 ? walk.cost : what == -2 ? walk.minutes : walk.row[what];
    }

    private int go(int person, int a, int b, int c, int limit) {
        Walk walk = walk(person, a, b, c, limit);
        int pence = walk.cost / 16;
        Person p = person(person);
        need(p.purse >= pence, NOT);
        p.purse -= pence;
        Shoe[] abc = {a == -1 ? null : shoe(a), b == -1 ? null : shoe(b), c == -1 ? null : shoe(c)};
        int[] taken = taken(walk.row, abc);
        for (int k = 0; k < 3; k++) {
            if (abc[k] != null) {
                abc[k].soles -= taken[k];
            }
        }
        return pence;
    }

    private static String key(int one, int other) {
        within(one, 0, 7);
        within(other, 0, 7);
        need(one != other, BAD);
        return Math.min(one, other) + "-" + Math.max(one, other);
    }

    private int path(int one, int other, int watched) {
        String key = key(one, other);
        within(watched, -1, 15);
        Integer was = watched == -1 ? s.paths.remove(key) : s.paths.put(key, watched);
        return (was == null ? -1 : was) + 100;
    }

    /** The best (product by 16^7, fewest paths) of all ways that come to no ford twice. */
    private void ways(int at, int to, int visited, long product, int taken, long[] best) {
        if (at == to) {
            if (product > best[0] || product == best[0] && taken < best[1]) {
                best[0] = product;
                best[1] = taken;
            }
            return;
        }
        for (int next = 0; next < 8; next++) {
            if ((visited >> next & 1) == 0) {
                Integer watched = s.paths.get(key(at, next));
                if (watched != null) {
                    ways(next, to, visited | 1 << next, product / 16 * (16 - watched), taken + 1, best);
                }
            }
        }
    }

    private long[] best(int from, int to) {
        key(from, to);
        long[] best = new long[2];
        ways(from, to, 1 << from, 1L << 28, 0, best);
        return best;
    }

    private static int part(long above, long below, int part) {
        BigInteger divisor = BigInteger.valueOf(above).gcd(BigInteger.valueOf(below));
        return BigInteger.valueOf(part == 0 ? above : below).divide(divisor).intValueExact();
    }

    private int unseen(int from, int to, int part) {
        within(part, 0, 1);
        long[] best = best(from, to);
        need(best[0] > 0, NONE);
        return part(best[0], 1L << 28, part);
    }

    private int paths(int from, int to) {
        long[] best = best(from, to);
        need(best[0] > 0, NONE);
        return (int) best[1];
    }

    private int buyer(int wants, int worth) {
        within(wants, 1, 9);
        within(worth, 1, 99);
        need(s.buyers.size() < 6, FULL);
        s.buyers.add(new int[] {wants, worth});
        return s.buyers.size() - 1;
    }

    private int market(int price, int supply, int what) {
        within(price, 1, 99);
        within(supply, 0, 60);
        within(what, 0, 1);
        Set<Integer> was = new HashSet<>();
        int at = price;
        for (int rounds = 0;; rounds++) {
            int wanted = 0;
            for (int[] b : s.buyers) {
                wanted += at <= b[1] ? b[0] : 0;
            }
            if (!was.add(at)) {
                return what == 0 ? NONE : rounds;
            }
            if (wanted == supply) {
                return what == 0 ? at : rounds;
            }
            at += wanted > supply ? 1 : -1;
            at = Math.max(1, Math.min(99, at));
        }
    }

    private int fair() {
        int all = s.buyers.size();
        s.buyers.clear();
        return all;
    }

    private int brothers(int set, int what) {
        within(set, 0, (1 << s.people.size()) - 1);
        within(what, 0, 1);
        List<Shoe> rights = new ArrayList<>();
        for (Shoe q : s.shoes) {
            if ((set >> q.owner & 1) == 1 && q.soles > 0 && q.foot == 1) {
                rights.add(q);
            }
        }
        int pairs = 0;
        for (Shoe q : s.shoes) {
            if ((set >> q.owner & 1) == 1 && q.soles > 0 && q.foot == 0) {
                for (Shoe r : rights) {
                    if (r.sort == q.sort) {
                        rights.remove(r);
                        pairs++;
                        break;
                    }
                }
            }
        }
        int can = 0;
        for (int k = 0; k < s.people.size(); k++) {
            if ((set >> k & 1) == 1 && s.people.get(k).feet == 0 && can < pairs) {
                can++;
            }
        }
        return what == 0 ? pairs : can;
    }

    private int restore() {
        need(kept != null, NONE);
        s = kept.copy();
        return 1;
    }

    private int[] row(int sheet, int lane, int i, long n) {
        within(sheet, 0, 3);
        within(lane, 0, 2);
        need(sheets[sheet] != null, NULL);
        need(sheets[sheet].lane == lane, CAST);
        int[] items = sheets[sheet].items;
        need(i >= 0 && i <= items.length && n >= 0 && i + n <= items.length, INDEX);
        int[] row = new int[(int) n];
        System.arraycopy(items, i, row, 0, (int) n);
        return row;
    }

    private static boolean inTurn(int[] row, int first, int second) {
        for (int k = 0; k < row.length; k += 2) {
            if (row[k] != first) {
                return false;
            }
        }
        for (int k = 1; k < row.length; k += 2) {
            if (row[k] != second) {
                return false;
            }
        }
        return true;
    }

    private static int print(Shoe q) {
        return 2 * (1 + q.sort) + q.foot;
    }

    private int ways(int[] row, int person) {
        List<Shoe> his = new ArrayList<>();
        for (Shoe q : s.shoes) {
            if (q.owner == person) {
                his.add(q);
            }
        }
        int feet = s.people.get(person).feet;
        int ways = 0;
        if (feet != 0) {
            for (Shoe q : his) {
                if (q.foot == feet - 1 && inTurn(row, print(q), print(q))) {
                    ways++;
                }
            }
            return inTurn(row, feet - 1, feet - 1) ? ways + 1 : ways;
        }
        for (int k = 0; k < his.size(); k++) {
            int one = print(his.get(k));
            if (inTurn(row, one, one)) {
                ways++;
            }
            for (int m = k + 1; m < his.size(); m++) {
                int other = print(his.get(m));
                boolean first = inTurn(row, one, other);
                boolean second = inTurn(row, other, one);
                if (his.get(k).foot == his.get(m).foot) {
                    ways += (first ? 1 : 0) + (second ? 1 : 0);
                } else if (first || second) {
                    ways++;
                }
            }
        }
        if (inTurn(row, 0, 1) || inTurn(row, 1, 0)) {
            ways++;
        }
        return ways;
    }

    private int[] printsOf(int sheet, int lane, int i, int n, int person) {
        within(n, 1, 12);
        person(person);
        int[] row = row(sheet, lane, i, n);
        for (int mark : row) {
            need(mark >= 0 && mark <= 9, NOT);
        }
        return row;
    }

    private int waysOfAll(int[] row) {
        int ways = 0;
        for (int k = 0; k < s.people.size(); k++) {
            ways += ways(row, k);
        }
        return ways;
    }

    private int prints(int sheet, int lane, int i, int n, int person, int what) {
        within(what, 0, 1);
        int[] row = printsOf(sheet, lane, i, n, person);
        return what == 0 ? ways(row, person) : waysOfAll(row);
    }

    private int odds(int sheet, int lane, int i, int n, int person, int part) {
        within(part, 0, 1);
        int[] row = printsOf(sheet, lane, i, n, person);
        need(waysOfAll(row) > 0, NONE);
        return part(ways(row, person), waysOfAll(row), part);
    }

    private int book(int sheet, int lane, int i, int n) {
        within(n, 1, 12);
        int[] row = row(sheet, lane, i, 2L * n);
        int[] left = new int[s.shoes.size()];
        for (int k = 0; k < left.length; k++) {
            left[k] = s.shoes.get(k).soles;
        }
        for (int r = 0; r < n; r++) {
            int shoe = row[2 * r];
            int miles = row[2 * r + 1];
            if (shoe < 0 || shoe >= left.length || miles < 1 || miles > 99 || left[shoe] < miles) {
                return r;
            }
            left[shoe] -= miles;
        }
        return NONE;
    }

    private int sheet(int sheet, int lane, int n) {
        within(sheet, 0, 3);
        within(lane, 0, 2);
        need(n <= 24, BAD);
        need(n >= 0, SIZE);
        sheets[sheet] = new Sheet();
        sheets[sheet].lane = lane;
        sheets[sheet].items = new int[n];
        return n;
    }

    private int drop(int sheet) {
        within(sheet, 0, 3);
        need(sheets[sheet] != null, NULL);
        int had = sheets[sheet].items.length;
        sheets[sheet] = null;
        return had;
    }

    private int item(int sheet, int lane, int i, int v) {
        row(sheet, lane, i, 1);
        sheets[sheet].items[i] = lane == 0 ? (byte) v : lane == 1 ? (short) v : v;
        return 1;
    }

    private int copy(int from, int i, int to, int j, int n) {
        within(from, 0, 3);
        within(to, 0, 3);
        need(sheets[from] != null && sheets[to] != null, NULL);
        need(sheets[from].lane == sheets[to].lane, CAST);
        int lane = sheets[from].lane;
        int[] row = row(from, lane, i, n);
        row(to, lane, j, n);
        System.arraycopy(row, 0, sheets[to].items, j, n);
        return n;
    }
}
