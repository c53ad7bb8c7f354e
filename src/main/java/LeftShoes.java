import java.util.Arrays;

/**
 * A tax on left shoes: people, shoes, a taxed road of nine miles and how to go it, prints in mud,
 * fords, a market, brothers, a cobbler's book, texts, images, sheets. ../shared/DOC.md says it all.
 */
public final class LeftShoes {
    public static final int BAD = -1, NOT = -2, FULL = -3, NONE = -4, NULL = -11, CAST = -12, INDEX = -13, SIZE = -14;

    private static final int MOST_PEOPLE = 5, MOST_PURSE = 9999;
    private static final int MOST_SHOES = 16, MOST_SOLES = 99;
    private static final int MILES = 9, MOST_MUD = 9, MOST_LIMIT = 999;
    private static final int MOST_RATE = 9, MOST_FINE = 99;
    private static final int FORDS = 8, MOST_PATHS = 7;
    private static final int MOST_BUYERS = 6, MOST_WANTS = 9, MOST_PRICE = 99, MOST_SUPPLY = 60;
    private static final int MOST_TAPE = 60, WORD = 8, FIRST_SIGN = 32, LAST_SIGN = 126;
    private static final int SHEETS = 4, LANES = 3, MOST_ITEMS = 24, MOST_ROWS = 12;
    private static final int SIXTEENTHS = 16;

    private static final int LEFT = 0, FEET = 2;
    private static final int STOUT = 1, CLOG = 2, SILK = 3, SORTS = 4;
    private static final int SHOD = 0, ALIKE = 1, HOP = 2, BARE = 3, GOINGS = 4;
    private static final int A = 0, B = 1, C = 2, WORN = 3;
    private static final int NO_SHOE = -1;
    private static final int FAULT = -20;
    private static final int FINE = 4, TAXED_FOOT = 5;
    private static final int COST = -1, ITS_MINUTES = -2;

    private final World now = new World();
    private final World kept = new World();
    private boolean isKept;
    private final Tape tape = new Tape();
    private final Tax taxDraft = new Tax();
    private final Road roadDraft = new Road();
    private final Walk walk = new Walk();
    private final Trail trail = new Trail();
    private final Sheet[] sheets = new Sheet[SHEETS];

    public LeftShoes() {
        for (int k = 0; k < SHEETS; k++) {
            sheets[k] = new Sheet();
        }
    }

    // ---- 1 people, shoes, taxes

    public int person(int purse, int feet) {
        if (!isWithin(purse, 0, MOST_PURSE) || !isWithin(feet, 0, FEET)) {
            return BAD;
        }
        return now.addPerson(purse, feet);
    }

    public int shoe(int owner, int foot, int sort, int soles) {
        if (!now.isPerson(owner) || !isFoot(foot) || !isSort(sort) || !isWithin(soles, 0, MOST_SOLES)) {
            return BAD;
        }
        return now.addShoe(owner, foot, sort, soles);
    }

    public int told(int shoe, int what) {
        if (!now.isShoe(shoe)) {
            return BAD;
        }
        Shoe it = now.shoes[shoe];
        switch (what) {
            case 0: return it.foot;
            case 1: return it.sort;
            case 2: return it.soles;
            case 3: return it.isStamped ? 1 : 0;
            case 4: return it.owner;
            default: return BAD;
        }
    }

    public int stamp(int shoe, boolean is) {
        if (!now.isShoe(shoe)) {
            return BAD;
        }
        Shoe it = now.shoes[shoe];
        int was = it.isStamped ? 1 : 0;
        it.isStamped = is;
        return was;
    }

    public int give(int shoe, int to) {
        if (!now.isShoe(shoe) || !now.isPerson(to)) {
            return BAD;
        }
        Shoe it = now.shoes[shoe];
        int was = it.owner;
        it.owner = to;
        return was;
    }

    public int of(int person, int what) {
        if (!now.isPerson(person)) {
            return BAD;
        }
        switch (what) {
            case 0: return now.purses[person];
            case 1: return now.feet[person];
            case 2: return now.shoesOf(person, LEFT);
            case 3: return now.shoesOf(person, 1 - LEFT);
            default: return BAD;
        }
    }

    public int tax(int what, int v) {
        if (isSort(what)) {
            return isWithin(v, 0, MOST_RATE) ? now.levy.setRate(what, v) : BAD;
        }
        if (what == FINE) {
            return isWithin(v, 0, MOST_FINE) ? now.levy.setFine(v) : BAD;
        }
        if (what == TAXED_FOOT) {
            return isFoot(v) ? now.levy.setFoot(v) : BAD;
        }
        return BAD;
    }

    public int road(int mile, int what, int v) {
        if (!isMile(mile)) {
            return BAD;
        }
        if (what == 0) {
            return isWithin(v, 0, MOST_MUD) ? now.way.setMud(mile, v) : BAD;
        }
        if (what == 1) {
            return isWithin(v, 0, SIXTEENTHS) ? now.way.setWatched(mile, v) : BAD;
        }
        return BAD;
    }

    public int type(long w, int n) {
        if (!isWithin(n, 1, WORD) || !Tape.isClean(w, n)) {
            return BAD;
        }
        return tape.append(w, n);
    }

    public int taxes() {
        taxDraft.become(now.levy);
        int answer = tape.readTax(taxDraft);
        tape.clear();
        if (answer >= 0) {
            now.levy.become(taxDraft);
        }
        return answer;
    }

    public int roads() {
        int answer = tape.readRoad(roadDraft);
        tape.clear();
        if (answer >= 0) {
            now.way.become(roadDraft);
        }
        return answer;
    }

    public int count(int what) {
        switch (what) {
            case 0: return now.peopleCount;
            case 1: return now.shoeCount;
            case 2: return now.stampedShoes();
            case 3: return now.solesOfAll();
            case 4: return now.buyers.size;
            case 5: return now.fords.joined();
            default: return BAD;
        }
    }

    // ---- 2 walks

    public int minutes(int going, int mile, int one, int other) {
        if (!isMile(mile) || !now.isGoingWith(going, one, other)) {
            return BAD;
        }
        return now.minutesOf(going, mile, now.shoeOrNull(one), now.shoeOrNull(other));
    }

    public int cheapest(int person, int a, int b, int c, int minutes, int what) {
        if (!isWithin(what, ITS_MINUTES, MILES - 1) || !isWalk(person, a, b, c, minutes)) {
            return BAD;
        }
        if (!walk.search(now, now.feet[person] != 0, a, b, c, minutes)) {
            return NONE;
        }
        if (what == COST) {
            return walk.bestCost;
        }
        return what == ITS_MINUTES ? walk.bestMinutes : walk.best[what];
    }

    public int go(int person, int a, int b, int c, int minutes) {
        if (!isWalk(person, a, b, c, minutes)) {
            return BAD;
        }
        if (!walk.search(now, now.feet[person] != 0, a, b, c, minutes)) {
            return NONE;
        }
        int pence = walk.bestCost / SIXTEENTHS;
        if (now.purses[person] < pence) {
            return NOT;
        }
        now.purses[person] -= pence;
        walk.wearOut();
        return pence;
    }

    // ---- 3 fords, markets, brothers

    public int path(int one, int other, int watched) {
        if (!arePoints(one, other) || !isWithin(watched, Fords.NO_PATH, SIXTEENTHS - 1)) {
            return BAD;
        }
        return now.fords.join(one, other, watched) + 100;
    }

    public int unseen(int from, int to, int part) {
        if (!arePoints(from, to) || !isWithin(part, 0, 1)) {
            return BAD;
        }
        if (!now.fords.search(from, to)) {
            return NONE;
        }
        return partOf(now.fords.product, Fords.CERTAIN, part);
    }

    public int paths(int from, int to) {
        if (!arePoints(from, to)) {
            return BAD;
        }
        return now.fords.search(from, to) ? now.fords.fewest : NONE;
    }

    public int buyer(int wants, int worth) {
        if (!isWithin(wants, 1, MOST_WANTS) || !isWithin(worth, 1, MOST_PRICE)) {
            return BAD;
        }
        return now.buyers.add(wants, worth);
    }

    public int market(int price, int supply, int what) {
        if (!isWithin(price, 1, MOST_PRICE) || !isWithin(supply, 0, MOST_SUPPLY) || !isWithin(what, 0, 1)) {
            return BAD;
        }
        boolean rests = now.buyers.settle(price, supply);
        if (what == 1) {
            return now.buyers.rounds;
        }
        return rests ? now.buyers.lastPrice : NONE;
    }

    public int fair() {
        int went = now.buyers.size;
        now.buyers.size = 0;
        return went;
    }

    public int brothers(int set, int what) {
        if (set < 0 || (set >> now.peopleCount) != 0 || !isWithin(what, 0, 1)) {
            return BAD;
        }
        int pairs = now.pairsOf(set);
        return what == 0 ? pairs : Math.min(pairs, now.twoFooted(set));
    }

    public int image() {
        kept.become(now);
        isKept = true;
        return 1;
    }

    public int restore() {
        if (!isKept) {
            return NONE;
        }
        now.become(kept);
        return 1;
    }

    // ---- 4 sheets

    public int prints(int sheet, int lane, int i, int n, int person, int what) {
        if (!isWithin(what, 0, 1)) {
            return BAD;
        }
        int refusal = readTrail(sheet, lane, i, n, person);
        if (refusal < 0) {
            return refusal;
        }
        return what == 0 ? trail.waysOf(now, person) : trail.waysOfAll(now);
    }

    public int odds(int sheet, int lane, int i, int n, int person, int part) {
        if (!isWithin(part, 0, 1)) {
            return BAD;
        }
        int refusal = readTrail(sheet, lane, i, n, person);
        if (refusal < 0) {
            return refusal;
        }
        int all = trail.waysOfAll(now);
        return all == 0 ? NONE : partOf(trail.waysOf(now, person), all, part);
    }

    public int book(int sheet, int lane, int i, int n) {
        if (!isSheet(sheet) || !isLane(lane) || !isWithin(n, 1, MOST_ROWS)) {
            return BAD;
        }
        int refusal = sheets[sheet].refusal(lane, i, 2 * n);
        if (refusal < 0) {
            return refusal;
        }
        for (int row = 0; row < n; row++) {
            if (!now.canBe(sheets[sheet], i, row)) {
                return row;
            }
        }
        return NONE;
    }

    public int sheet(int sheet, int lane, int n) {
        if (!isSheet(sheet) || !isLane(lane) || n > MOST_ITEMS) {
            return BAD;
        }
        if (n < 0) {
            return SIZE;
        }
        sheets[sheet].begin(lane, n);
        return n;
    }

    public int drop(int sheet) {
        if (!isSheet(sheet)) {
            return BAD;
        }
        Sheet it = sheets[sheet];
        if (it.isNothing()) {
            return NULL;
        }
        int had = it.length;
        it.clear();
        return had;
    }

    public int item(int sheet, int lane, int i, int v) {
        if (!isSheet(sheet) || !isLane(lane)) {
            return BAD;
        }
        int refusal = sheets[sheet].refusal(lane, i, 1);
        if (refusal < 0) {
            return refusal;
        }
        sheets[sheet].put(i, v);
        return 1;
    }

    public int copy(int from, int i, int to, int j, int n) {
        if (!isSheet(from) || !isSheet(to)) {
            return BAD;
        }
        Sheet source = sheets[from];
        Sheet target = sheets[to];
        if (source.isNothing() || target.isNothing()) {
            return NULL;
        }
        if (source.lane != target.lane) {
            return CAST;
        }
        if (!source.holds(i, n) || !target.holds(j, n)) {
            return INDEX;
        }
        System.arraycopy(source.items, i, target.items, j, n);
        return n;
    }

    // ---- what calls look at

    private static boolean isWithin(int v, int least, int most) {
        return v >= least && v <= most;
    }

    private static boolean isFoot(int foot) {
        return isWithin(foot, 0, FEET - 1);
    }

    private static boolean isSort(int sort) {
        return isWithin(sort, 0, SORTS - 1);
    }

    private static boolean isMile(int mile) {
        return isWithin(mile, 0, MILES - 1);
    }

    private static boolean arePoints(int one, int other) {
        return isWithin(one, 0, FORDS - 1) && isWithin(other, 0, FORDS - 1) && one != other;
    }

    private static boolean isSheet(int sheet) {
        return isWithin(sheet, 0, SHEETS - 1);
    }

    private static boolean isLane(int lane) {
        return isWithin(lane, 0, LANES - 1);
    }

    private boolean isWalk(int person, int a, int b, int c, int minutes) {
        return isWithin(minutes, 1, MOST_LIMIT) && now.isPerson(person) && now.areWorn(person, a, b, c);
    }

    /** Below 0 if the call is refused, else 0, and the trail holds the PRINTS. */
    private int readTrail(int sheet, int lane, int i, int n, int person) {
        if (!isSheet(sheet) || !isLane(lane) || !isWithin(n, 1, MOST_ROWS) || !now.isPerson(person)) {
            return BAD;
        }
        int refusal = sheets[sheet].refusal(lane, i, n);
        if (refusal < 0) {
            return refusal;
        }
        return trail.read(sheets[sheet], i, n) ? 0 : NOT;
    }

    /** Of above by below in lowest terms: above (0), below (1). Below is more than 0. */
    private static int partOf(int above, int below, int part) {
        int divisor = greatestDivisor(above, below);
        if (divisor == 0) {
            return 0;
        }
        return (part == 0 ? above : below) / divisor;
    }

    private static int greatestDivisor(int one, int other) {
        int a = one;
        int b = other;
        // Two steps halve b at least, so that 64 are more than any int needs.
        for (int step = 0; step < 64 && b != 0; step++) {
            int rest = a % b;
            a = b;
            b = rest;
        }
        return a;
    }

    private static final class Shoe {
        int foot;
        int sort;
        int soles;
        int owner;
        boolean isStamped;

        void become(Shoe other) {
            foot = other.foot;
            sort = other.sort;
            soles = other.soles;
            owner = other.owner;
            isStamped = other.isStamped;
        }

        /** SOLES that a MILE takes. */
        int wear() {
            return sort == SILK ? 2 : 1;
        }

        /** MINUTES more (or less) by it on a MILE. */
        int delay(int mud) {
            if (sort == STOUT) {
                return -1;
            }
            if (sort == CLOG) {
                return mud >= 5 ? -2 : 1;
            }
            return 0;
        }

        /** Its print. */
        int mark() {
            return 2 * (1 + sort) + foot;
        }
    }

    private static final class Tax {
        final int[] rates = new int[SORTS];
        int fine;
        int foot = LEFT;

        int setRate(int sort, int v) {
            int was = rates[sort];
            rates[sort] = v;
            return was;
        }

        int setFine(int v) {
            int was = fine;
            fine = v;
            return was;
        }

        int setFoot(int v) {
            int was = foot;
            foot = v;
            return was;
        }

        /** COST of wearing a SHOE (or none: null) for a MILE. */
        int costOf(Shoe shoe, int watched) {
            if (shoe == null || shoe.foot != foot) {
                return 0;
            }
            return shoe.isStamped ? SIXTEENTHS * rates[shoe.sort] : fine * watched;
        }

        void become(Tax other) {
            System.arraycopy(other.rates, 0, rates, 0, SORTS);
            fine = other.fine;
            foot = other.foot;
        }
    }

    private static final class Road {
        final int[] mud = new int[MILES];
        final int[] watched = new int[MILES];

        int setMud(int mile, int v) {
            int was = mud[mile];
            mud[mile] = v;
            return was;
        }

        int setWatched(int mile, int v) {
            int was = watched[mile];
            watched[mile] = v;
            return was;
        }

        int allMud() {
            int all = 0;
            for (int mile = 0; mile < MILES; mile++) {
                all += mud[mile];
            }
            return all;
        }

        void become(Road other) {
            System.arraycopy(other.mud, 0, mud, 0, MILES);
            System.arraycopy(other.watched, 0, watched, 0, MILES);
        }
    }

    /** All but SHEETS and THE TAPE: what an IMAGE keeps. */
    private static final class World {
        private static final int[] BASE_MINUTES = {20, 26, 40, 30};
        private static final int[] MUD_MINUTES = {1, 1, 2, 3};

        int peopleCount;
        final int[] purses = new int[MOST_PEOPLE];
        final int[] feet = new int[MOST_PEOPLE];
        int shoeCount;
        final Shoe[] shoes = new Shoe[MOST_SHOES];
        final Tax levy = new Tax();
        final Road way = new Road();
        final Fords fords = new Fords();
        final Buyers buyers = new Buyers();

        World() {
            for (int k = 0; k < MOST_SHOES; k++) {
                shoes[k] = new Shoe();
            }
        }

        boolean isPerson(int person) {
            return isWithin(person, 0, peopleCount - 1);
        }

        boolean isShoe(int shoe) {
            return isWithin(shoe, 0, shoeCount - 1);
        }

        Shoe shoeOrNull(int shoe) {
            return isShoe(shoe) ? shoes[shoe] : null;
        }

        int addPerson(int purse, int feetOfHis) {
            if (peopleCount >= MOST_PEOPLE) {
                return FULL;
            }
            purses[peopleCount] = purse;
            feet[peopleCount] = feetOfHis;
            peopleCount++;
            return peopleCount - 1;
        }

        int addShoe(int owner, int foot, int sort, int soles) {
            if (shoeCount >= MOST_SHOES) {
                return FULL;
            }
            Shoe it = shoes[shoeCount];
            it.owner = owner;
            it.foot = foot;
            it.sort = sort;
            it.soles = soles;
            it.isStamped = false;
            shoeCount++;
            return shoeCount - 1;
        }

        int shoesOf(int person, int foot) {
            int all = 0;
            for (int k = 0; k < shoeCount; k++) {
                if (shoes[k].owner == person && shoes[k].foot == foot) {
                    all++;
                }
            }
            return all;
        }

        int stampedShoes() {
            int all = 0;
            for (int k = 0; k < shoeCount; k++) {
                if (shoes[k].isStamped) {
                    all++;
                }
            }
            return all;
        }

        int solesOfAll() {
            int all = 0;
            for (int k = 0; k < shoeCount; k++) {
                all += shoes[k].soles;
            }
            return all;
        }

        /** Whether the SHOES are as a GOING wants them. */
        boolean isGoingWith(int going, int one, int other) {
            switch (going) {
                case SHOD: return isShoeFor(one, levy.foot) && isShoeFor(other, 1 - levy.foot);
                case ALIKE: return one != other && isShoeFor(one, 1 - levy.foot) && isShoeFor(other, 1 - levy.foot);
                case HOP: return isShoeFor(one, 1 - levy.foot) && other == NO_SHOE;
                case BARE: return one == NO_SHOE && other == NO_SHOE;
                default: return false;
            }
        }

        private boolean isShoeFor(int shoe, int foot) {
            return isShoe(shoe) && shoes[shoe].foot == foot;
        }

        /** Whether one of PEOPLE may wear A, B, C on a WALK. */
        boolean areWorn(int person, int a, int b, int c) {
            if (feet[person] != 0) {
                return a == NO_SHOE && c == NO_SHOE && isNoneOrHis(b, person, feet[person] - 1);
            }
            boolean alike = b != NO_SHOE && b == c;
            return !alike && isNoneOrHis(a, person, levy.foot)
                    && isNoneOrHis(b, person, 1 - levy.foot) && isNoneOrHis(c, person, 1 - levy.foot);
        }

        private boolean isNoneOrHis(int shoe, int person, int foot) {
            return shoe == NO_SHOE || (isShoeFor(shoe, foot) && shoes[shoe].owner == person);
        }

        /** MINUTES of a GOING on a MILE; a SHOE that is not worn is null. */
        int minutesOf(int going, int mile, Shoe one, Shoe other) {
            int mud = way.mud[mile];
            int all = BASE_MINUTES[going] + MUD_MINUTES[going] * mud;
            if (one != null) {
                all += one.delay(mud);
            }
            if (other != null) {
                all += other.delay(mud);
            }
            return all;
        }

        int costOf(int mile, Shoe one, Shoe other) {
            return levy.costOf(one, way.watched[mile]) + levy.costOf(other, way.watched[mile]);
        }

        /** PAIRS that a set of PEOPLE can make. */
        int pairsOf(int set) {
            int pairs = 0;
            for (int sort = 0; sort < SORTS; sort++) {
                pairs += Math.min(wearable(set, LEFT, sort), wearable(set, 1 - LEFT, sort));
            }
            return pairs;
        }

        private int wearable(int set, int foot, int sort) {
            int all = 0;
            for (int k = 0; k < shoeCount; k++) {
                Shoe it = shoes[k];
                if (isIn(set, it.owner) && it.foot == foot && it.sort == sort && it.soles > 0) {
                    all++;
                }
            }
            return all;
        }

        int twoFooted(int set) {
            int all = 0;
            for (int k = 0; k < peopleCount; k++) {
                if (isIn(set, k) && feet[k] == 0) {
                    all++;
                }
            }
            return all;
        }

        private static boolean isIn(int set, int person) {
            return ((set >> person) & 1) == 1;
        }

        /** Whether a row of a COBBLER's BOOK, which begins at item i, can be, behind those ahead of it. */
        boolean canBe(Sheet it, int i, int row) {
            int shoe = it.items[i + 2 * row];
            if (!isShoe(shoe) || !isWithin(it.items[i + 2 * row + 1], 1, MOST_SOLES)) {
                return false;
            }
            int walked = 0;
            for (int k = 0; k <= row; k++) {
                if (it.items[i + 2 * k] == shoe) {
                    walked += it.items[i + 2 * k + 1];
                }
            }
            return walked <= shoes[shoe].soles;
        }

        void become(World other) {
            peopleCount = other.peopleCount;
            System.arraycopy(other.purses, 0, purses, 0, MOST_PEOPLE);
            System.arraycopy(other.feet, 0, feet, 0, MOST_PEOPLE);
            shoeCount = other.shoeCount;
            for (int k = 0; k < MOST_SHOES; k++) {
                shoes[k].become(other.shoes[k]);
            }
            levy.become(other.levy);
            way.become(other.way);
            fords.become(other.fords);
            buyers.become(other.buyers);
        }
    }

    private static final class Fords {
        static final int NO_PATH = -1;
        /** 16 times itself for each PATH of the longest way: each step divides it without a rest. */
        static final int CERTAIN = 1 << 28;

        /** By lower FORD, then higher one. */
        final int[][] watched = new int[FORDS][FORDS];
        final int[] reached = new int[FORDS];
        final int[] next = new int[FORDS];
        /** UNSEEN of the last search by CERTAIN, and its fewest PATHS. */
        int product;
        int fewest;

        Fords() {
            for (int one = 0; one < FORDS; one++) {
                Arrays.fill(watched[one], NO_PATH);
            }
        }

        private int between(int one, int other) {
            return watched[Math.min(one, other)][Math.max(one, other)];
        }

        int join(int one, int other, int v) {
            int was = between(one, other);
            watched[Math.min(one, other)][Math.max(one, other)] = v;
            return was;
        }

        int joined() {
            int all = 0;
            for (int one = 0; one < FORDS; one++) {
                for (int other = one + 1; other < FORDS; other++) {
                    if (between(one, other) != NO_PATH) {
                        all++;
                    }
                }
            }
            return all;
        }

        /** Whether there is a way. */
        boolean search(int from, int to) {
            product = 0;
            fewest = 0;
            Arrays.fill(reached, 0);
            reached[from] = CERTAIN;
            for (int taken = 1; taken <= MOST_PATHS; taken++) {
                for (int ford = 0; ford < FORDS; ford++) {
                    next[ford] = bestInto(ford);
                }
                System.arraycopy(next, 0, reached, 0, FORDS);
                // Only more counts, so that of like products the fewest PATHS stay.
                if (reached[to] > product) {
                    product = reached[to];
                    fewest = taken;
                }
            }
            return product > 0;
        }

        private int bestInto(int ford) {
            int best = 0;
            for (int from = 0; from < FORDS; from++) {
                int seen = between(from, ford);
                if (seen != NO_PATH) {
                    best = Math.max(best, reached[from] / SIXTEENTHS * (SIXTEENTHS - seen));
                }
            }
            return best;
        }

        void become(Fords other) {
            for (int one = 0; one < FORDS; one++) {
                System.arraycopy(other.watched[one], 0, watched[one], 0, FORDS);
            }
        }
    }

    private static final class Buyers {
        final int[] wants = new int[MOST_BUYERS];
        final int[] worth = new int[MOST_BUYERS];
        int size;
        final int[] wasPrice = new int[MOST_PRICE + 1];
        /** Where the last settling ended, behind how many ROUNDS. */
        int lastPrice;
        int rounds;

        int add(int wanted, int most) {
            if (size >= MOST_BUYERS) {
                return FULL;
            }
            wants[size] = wanted;
            worth[size] = most;
            size++;
            return size - 1;
        }

        private int wantedAt(int price) {
            int all = 0;
            for (int k = 0; k < size; k++) {
                if (price <= worth[k]) {
                    all += wants[k];
                }
            }
            return all;
        }

        /** Whether THE MARKET RESTS; it GOES ROUND, if not. */
        boolean settle(int price, int supply) {
            Arrays.fill(wasPrice, 0);
            lastPrice = price;
            // There are no more prices than this, so one comes again by then.
            for (rounds = 0; rounds <= MOST_PRICE; rounds++) {
                int wanted = wantedAt(lastPrice);
                if (wasPrice[lastPrice] == 1) {
                    return false;
                }
                if (wanted == supply) {
                    return true;
                }
                wasPrice[lastPrice] = 1;
                lastPrice = wanted > supply ? Math.min(lastPrice + 1, MOST_PRICE) : Math.max(lastPrice - 1, 1);
            }
            return false;
        }

        void become(Buyers other) {
            System.arraycopy(other.wants, 0, wants, 0, MOST_BUYERS);
            System.arraycopy(other.worth, 0, worth, 0, MOST_BUYERS);
            size = other.size;
        }
    }

    private static final class Tape {
        private static final int END = -1;

        final int[] signs = new int[MOST_TAPE];
        int length;
        /** Where reading is; of a FAULT, its place. */
        int at;

        static boolean isClean(long w, int n) {
            for (int k = 0; k < n; k++) {
                if (!isWithin(byteOf(w, k), FIRST_SIGN, LAST_SIGN)) {
                    return false;
                }
            }
            return true;
        }

        private static int byteOf(long w, int k) {
            return (int) ((w >>> (8 * k)) & 0xFF);
        }

        int append(long w, int n) {
            if (length + n > MOST_TAPE) {
                return FULL;
            }
            for (int k = n - 1; k >= 0; k--) {
                signs[length] = byteOf(w, k);
                length++;
            }
            return length;
        }

        void clear() {
            length = 0;
        }

        /** How many RATES, or a FAULT: then the draft is spoilt. */
        int readTax(Tax draft) {
            at = 0;
            int sign = look();
            if (sign == 'l' || sign == 'r') {
                draft.foot = sign == 'l' ? LEFT : 1 - LEFT;
                at++;
            }
            int rates = readRates(draft);
            if (rates == 0) {
                return FAULT - at;
            }
            if (look() == 'f') {
                at++;
                draft.fine = readNumber(MOST_FINE);
                if (draft.fine < 0) {
                    return FAULT - at;
                }
            }
            return look() == END ? rates : FAULT - at;
        }

        /** How many RATES stand here; 0 if there is none, or a digit is missing. */
        private int readRates(Tax draft) {
            int told = 0;
            for (int rates = 0; rates < SORTS; rates++) {
                int sort = sortOf(look());
                if (sort < 0 || ((told >> sort) & 1) == 1) {
                    return rates;
                }
                told |= 1 << sort;
                at++;
                int rate = readDigit();
                if (rate < 0) {
                    return 0;
                }
                draft.rates[sort] = rate;
            }
            return SORTS;
        }

        private static int sortOf(int sign) {
            switch (sign) {
                case 'p': return 0;
                case 's': return STOUT;
                case 'c': return CLOG;
                case 'k': return SILK;
                default: return -1;
            }
        }

        /** All MUD together, or a FAULT: then the draft is spoilt. */
        int readRoad(Road draft) {
            at = 0;
            for (int mile = 0; mile < MILES; mile++) {
                if (mile > 0) {
                    if (look() != ',') {
                        return FAULT - at;
                    }
                    at++;
                }
                if (!readMile(draft, mile)) {
                    return FAULT - at;
                }
            }
            return look() == END ? draft.allMud() : FAULT - at;
        }

        private boolean readMile(Road draft, int mile) {
            draft.mud[mile] = readDigit();
            draft.watched[mile] = 0;
            if (draft.mud[mile] < 0) {
                return false;
            }
            if (look() == 'w') {
                at++;
                draft.watched[mile] = readNumber(SIXTEENTHS);
            }
            return draft.watched[mile] >= 0;
        }

        /** The next byte behind blanks, where reading then is. */
        private int look() {
            while (at < length && signs[at] == ' ') {
                at++;
            }
            return at < length ? signs[at] : END;
        }

        /** -1 if there is none; then reading stays at what stands there. */
        private int readDigit() {
            int sign = look();
            if (!isDigit(sign)) {
                return -1;
            }
            at++;
            return sign - '0';
        }

        /** -1 if there is none, or it is above the most; then reading stays where it would begin. */
        private int readNumber(int most) {
            look();
            int v = 0;
            int end = at;
            for (; end < length && isDigit(signs[end]); end++) {
                // No more than one above the most, so that many digits do not wrap it round.
                v = Math.min(10 * v + signs[end] - '0', most + 1);
            }
            if (end == at || v > most) {
                return -1;
            }
            at = end;
            return v;
        }

        private static boolean isDigit(int sign) {
            return isWithin(sign, '0', '9');
        }
    }

    /** The search for the CHEAPEST: rows of GOINGS are tried in their order, cut off where they can't be it. */
    private static final class Walk {
        private static final int MOST_BARE = 4, MOST_HOPS = 2;
        /** A MILE is come to 4^MILE times at most, and each time left behind 5 tries: 436,905 in all. */
        private static final int MOST_TRIES = 1000000;
        private static final int[] TIMES_A = {1, 0, 0, 0};
        private static final int[] TIMES_B = {1, 1, 2, 0};
        private static final int[] TIMES_C = {0, 1, 0, 0};

        /** A, B, C, or null. */
        final Shoe[] worn = new Shoe[WORN];
        boolean isOneFooted;
        int limit;
        /** Of a GOING: whether there are SHOES for it; and what it takes. */
        final boolean[] isOpen = new boolean[GOINGS];
        final int[][] minutesOf = new int[GOINGS][MILES];
        final int[][] costOf = new int[GOINGS][MILES];
        final int[][] wearOf = new int[GOINGS][WORN];
        /** MINUTES that the road from a MILE on takes at least. */
        final int[] leastMinutes = new int[MILES + 1];

        final int[] row = new int[MILES];
        /** What the row takes ahead of a MILE. */
        final int[] minutesTo = new int[MILES + 1];
        final int[] costTo = new int[MILES + 1];
        final int[][] goneTo = new int[MILES + 1][GOINGS];
        /** HOPS at its end: more than the most are none more. */
        final int[] hopsTo = new int[MILES + 1];
        final int[][] solesAt = new int[MILES + 1][WORN];
        final Arrivals arrivals = new Arrivals();

        boolean isFound;
        final int[] best = new int[MILES];
        int bestCost;
        int bestMinutes;

        boolean search(World world, boolean oneFooted, int a, int b, int c, int most) {
            worn[A] = world.shoeOrNull(a);
            worn[B] = world.shoeOrNull(b);
            worn[C] = world.shoeOrNull(c);
            isOneFooted = oneFooted;
            limit = most;
            arrivals.forget();
            prepareGoings(world);
            prepareLeast();
            isFound = false;
            bestCost = 0;
            bestMinutes = 0;
            tryRows();
            return isFound;
        }

        private void prepareGoings(World world) {
            for (int going = 0; going < GOINGS; going++) {
                Shoe one = going == SHOD ? worn[A] : going == BARE ? null : worn[B];
                Shoe other = going == SHOD ? worn[B] : going == ALIKE ? worn[C] : null;
                isOpen[going] = isOpenWith(going, one, other);
                for (int mile = 0; mile < MILES; mile++) {
                    minutesOf[going][mile] = world.minutesOf(going, mile, one, other);
                    costOf[going][mile] = world.costOf(mile, one, other);
                }
                wearOf[going][A] = TIMES_A[going] * wear(A);
                wearOf[going][B] = TIMES_B[going] * wear(B);
                wearOf[going][C] = TIMES_C[going] * wear(C);
            }
            for (int k = 0; k < WORN; k++) {
                solesAt[0][k] = worn[k] == null ? 0 : worn[k].soles;
            }
        }

        private boolean isOpenWith(int going, Shoe one, Shoe other) {
            if (going == HOP) {
                return one != null;
            }
            return !isOneFooted && (going == BARE || (one != null && other != null));
        }

        private int wear(int k) {
            return worn[k] == null ? 0 : worn[k].wear();
        }

        private void prepareLeast() {
            leastMinutes[MILES] = 0;
            for (int mile = MILES - 1; mile >= 0; mile--) {
                int least = limit + 1;
                for (int going = 0; going < GOINGS; going++) {
                    if (isOpen[going]) {
                        least = Math.min(least, minutesOf[going][mile]);
                    }
                }
                leastMinutes[mile] = leastMinutes[mile + 1] + least;
            }
        }

        private void tryRows() {
            int mile = 0;
            row[0] = -1;
            for (int tries = 0; tries < MOST_TRIES && mile >= 0; tries++) {
                row[mile]++;
                if (row[mile] >= GOINGS) {
                    mile--;
                } else if (isAllowed(mile, row[mile]) && hasSoles(mile, row[mile]) && isBetter(mile, row[mile])) {
                    step(mile, row[mile]);
                    if (mile == MILES - 1) {
                        keep();
                    } else if (!isOutdone(mile + 1)) {
                        mile++;
                        row[mile] = -1;
                    }
                }
            }
        }

        private boolean isAllowed(int mile, int going) {
            if (!isOpen[going]) {
                return false;
            }
            if (going == BARE) {
                return goneTo[mile][BARE] < MOST_BARE;
            }
            return going != HOP || isOneFooted || hopsTo[mile] < MOST_HOPS;
        }

        private boolean hasSoles(int mile, int going) {
            for (int k = 0; k < WORN; k++) {
                if (solesAt[mile][k] < wearOf[going][k]) {
                    return false;
                }
            }
            return true;
        }

        /** Whether the row with this GOING can end in time, and better than the best; a like one comes too late. */
        private boolean isBetter(int mile, int going) {
            int least = minutesTo[mile] + minutesOf[going][mile] + leastMinutes[mile + 1];
            if (least > limit) {
                return false;
            }
            int cost = costTo[mile] + costOf[going][mile];
            return !isFound || cost < bestCost || (cost == bestCost && least < bestMinutes);
        }

        private void step(int mile, int going) {
            minutesTo[mile + 1] = minutesTo[mile] + minutesOf[going][mile];
            costTo[mile + 1] = costTo[mile] + costOf[going][mile];
            for (int k = 0; k < GOINGS; k++) {
                goneTo[mile + 1][k] = goneTo[mile][k] + (going == k ? 1 : 0);
            }
            hopsTo[mile + 1] = going == HOP ? Math.min(hopsTo[mile] + 1, MOST_HOPS) : 0;
            for (int k = 0; k < WORN; k++) {
                solesAt[mile + 1][k] = solesAt[mile][k] - wearOf[going][k];
            }
        }

        /** Whether a row ahead came to this MILE for no more, bounded alike further on: then it ends as well, and first. */
        private boolean isOutdone(int mile) {
            int[] gone = goneTo[mile];
            int place = (mile * MILES + gone[SHOD]) * MILES + gone[ALIKE];
            place = (place * (MOST_BARE + 1) + gone[BARE]) * (MOST_HOPS + 1) + hopsTo[mile];
            return !arrivals.betters(place, costTo[mile], minutesTo[mile]);
        }

        private void keep() {
            isFound = true;
            System.arraycopy(row, 0, best, 0, MILES);
            bestCost = costTo[MILES];
            bestMinutes = minutesTo[MILES];
        }

        /** Takes from the SHOES what the best takes. */
        void wearOut() {
            for (int mile = 0; mile < MILES; mile++) {
                for (int k = 0; k < WORN; k++) {
                    if (worn[k] != null) {
                        worn[k].soles -= wearOf[best[mile]][k];
                    }
                }
            }
        }
    }

    /** With what COST, MINUTES the search for a WALK came last to each of its places. */
    private static final class Arrivals {
        /** Of rows to a MILE, told apart by what bounds them further: SHOD, ALIKE, BARE MILES, HOPS at their end. */
        private static final int PLACES = MILES * MILES * MILES * (Walk.MOST_BARE + 1) * (Walk.MOST_HOPS + 1);

        final int[] costs = new int[PLACES];
        final int[] lengths = new int[PLACES];
        final int[] searchOf = new int[PLACES];
        /** Counted, so that no place need be cleared for a new one. */
        int search;

        void forget() {
            search++;
        }

        /** Whether this one betters the last in COST or MINUTES; then it takes its place. */
        boolean betters(int place, int cost, int length) {
            if (!isWithin(place, 0, PLACES - 1)) {
                return true;
            }
            if (searchOf[place] == search && costs[place] <= cost && lengths[place] <= length) {
                return false;
            }
            searchOf[place] = search;
            costs[place] = cost;
            lengths[place] = length;
            return true;
        }
    }

    /** PRINTS in mud. */
    private static final class Trail {
        private static final int MOST_MARK = 9;

        final int[] marks = new int[MOST_ROWS];
        int length;

        /** Whether all items are PRINTS. */
        boolean read(Sheet it, int i, int n) {
            length = n;
            for (int k = 0; k < n; k++) {
                marks[k] = it.items[i + k];
                if (!isWithin(marks[k], 0, MOST_MARK)) {
                    return false;
                }
            }
            return true;
        }

        /** Whether these two make it in turn. */
        private boolean isOf(int first, int second) {
            for (int k = 0; k < length; k++) {
                if (marks[k] != (k % 2 == 0 ? first : second)) {
                    return false;
                }
            }
            return true;
        }

        int waysOf(World world, int person) {
            return world.feet[person] == 0 ? waysOnBoth(world, person) : waysOnOne(world, person);
        }

        private int waysOnBoth(World world, int person) {
            int ways = isOf(0, 1) || isOf(1, 0) ? 1 : 0;
            // SHOES of unlike FEET never fit both ways round, so a pair counts as often as it fits,
            // SHOD and ALIKE; a SHOE with itself is HOP.
            for (int first = 0; first < world.shoeCount; first++) {
                for (int second = 0; second < world.shoeCount; second++) {
                    Shoe one = world.shoes[first];
                    Shoe other = world.shoes[second];
                    if (one.owner == person && other.owner == person && isOf(one.mark(), other.mark())) {
                        ways++;
                    }
                }
            }
            return ways;
        }

        private int waysOnOne(World world, int person) {
            int foot = world.feet[person] - 1;
            int ways = isOf(foot, foot) ? 1 : 0;
            for (int k = 0; k < world.shoeCount; k++) {
                Shoe it = world.shoes[k];
                if (it.owner == person && it.foot == foot && isOf(it.mark(), it.mark())) {
                    ways++;
                }
            }
            return ways;
        }

        int waysOfAll(World world) {
            int ways = 0;
            for (int person = 0; person < world.peopleCount; person++) {
                ways += waysOf(world, person);
            }
            return ways;
        }
    }

    private static final class Sheet {
        private static final int NO_LANE = -1;

        final int[] items = new int[MOST_ITEMS];
        int lane = NO_LANE;
        int length;

        boolean isNothing() {
            return lane == NO_LANE;
        }

        void begin(int newLane, int n) {
            lane = newLane;
            length = n;
            Arrays.fill(items, 0);
        }

        void clear() {
            lane = NO_LANE;
            length = 0;
        }

        /** Whether it has n items from i on; written so that large numbers do not wrap round. */
        boolean holds(int i, int n) {
            return i >= 0 && n >= 0 && i <= length && n <= length - i;
        }

        /** NULL, CAST, INDEX, or 0, if n items from i on can be taken as a row of a LANE. */
        int refusal(int asLane, int i, int n) {
            if (isNothing()) {
                return NULL;
            }
            if (lane != asLane) {
                return CAST;
            }
            return holds(i, n) ? 0 : INDEX;
        }

        void put(int i, int v) {
            items[i] = lane == 0 ? (byte) v : lane == 1 ? (short) v : v;
        }
    }
}
