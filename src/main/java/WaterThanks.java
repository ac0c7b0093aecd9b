import java.util.Arrays;

/** Villages along one water, what they use of it, and the thanks they owe one another. */
public final class WaterThanks {
    public static final int BAD = -1, FULL = -2, NONE = -3, STATE = -4, LOW = -1000000;

    private static final int NOTHING = -11, OUTSIDE = -12, OTHER_SORT = -13, SIZE_BELOW_0 = -14;
    private static final int NO_SUCH_ROW = -9, NO_BREACH = -9;

    private static final int VILLAGES = 6, FACTS = 6, WORTHS = 12, YEARS = 6;
    private static final int FLOW = 0, BANK = 1, HARM = 2, DIRT = 3, LIMIT = 4, CLEAN = 5;
    private static final int[] LEAST_FACT = {0, 0, 0, 0, 0, 1};
    private static final int[] MOST_FACT = {12, 99, 9, 20, 99, 9};
    private static final int[] FIRST_FACT = {0, 99, 0, 0, 99, 1};
    private static final int MOST_WORTH = 99, MOST_WET = 20, PLAIN_WET = 10, MOST_HOLDS = 4;
    /** The most that can come to a village: all flows in the wettest year, and what the dam held. */
    private static final int MEASURES = VILLAGES * 24 + MOST_HOLDS;
    private static final int MOST_DIRT = VILLAGES * 20;

    private static final int BY_TREATY = -1, MOST_PLAIN = 24;
    private static final int KEEP_ALL = 0, DOWN = 1, UP = 2, EQUAL = 3, MOST_THANKS = 9999;
    private static final int NOT_EVEN = 300, NOT_AS_MANY = 21, LESS_THAN_BEST = 22;
    private static final int ROW_VILLAGE = 0, ROW_USE = 1, ROW_PASSES = 2, ROW_PARTS = 3;

    private static final int SHEETS = 4, SHEET_SIZE = 40, MISSING = -1;
    private static final int BYTES = 0, SHORTS = 1, INTS = 2, LONGS = 3;
    private static final int SHELVES = 4, EMPTY = -1, A_ROW = 10;
    private static final int SHARING = 0, BEST_SHARING = 2, DOWN_SHARING = 3, UP_SHARING = 4;
    private static final int EQUAL_SHARING = 5, A_VILLAGE = 6, SHEET_ROW = 7, SHELVE_NOTHING = 8;
    /** The kind right above each kind; -1: none. */
    private static final int[] UNDER = {-1, 0, 0, 2, 2, 3, -1};

    private final Land now = new Land();
    private final Land saved = new Land();
    private boolean hasSaved = false;
    private final Water water = new Water();
    private final Storage storage = new Storage();
    private final Dirt dirt = new Dirt();
    private final TreatyReader reader = new TreatyReader();
    private final int[] shares = new int[VILLAGES];
    private final int[][] rows = new int[VILLAGES][ROW_PARTS];
    private int rowCount = 0;
    private final Sheet[] sheets = new Sheet[SHEETS];
    private final int[] shelfKinds = new int[SHELVES];
    /** The village's number, or how many items the row has. */
    private final int[] shelfNumbers = new int[SHELVES];
    private final Acts acts = new Acts();

    public WaterThanks() {
        for (int s = 0; s < SHEETS; s++) {
            sheets[s] = new Sheet();
        }
        Arrays.fill(shelfKinds, EMPTY);
    }

    // ---- villages, uses

    public int village(int flow) {
        if (!isFact(FLOW, flow)) {
            return BAD;
        }
        if (now.villages == VILLAGES) {
            return FULL;
        }
        return now.addVillage(flow);
    }

    public int villageOf(int v, int what) {
        return isVillage(v) && within(what, 0, FACTS - 1) ? now.facts[v][what] : BAD;
    }

    public int set(int v, int what, int n) {
        if (!isVillage(v) || !within(what, 0, FACTS - 1) || !isFact(what, n)) {
            return BAD;
        }
        int was = now.facts[v][what];
        now.facts[v][what] = n;
        return was;
    }

    public int worths(int v, int sheet) {
        if (!isVillage(v) || !isSheet(sheet)) {
            return BAD;
        }
        int refusal = sheets[sheet].refusalAs(BYTES);
        if (refusal != 0) {
            return refusal;
        }
        if (!tellsWorths(sheets[sheet])) {
            return STATE;
        }
        now.takeWorths(v, sheets[sheet].items);
        return 1;
    }

    public int worth(int v, int n) {
        return isVillage(v) && within(n, 0, WORTHS) ? now.together[v][n] : BAD;
    }

    public int best(int wet) {
        return isWet(wet) ? bestOf(wet) : LOW + BAD;
    }

    public int use(int v, int what) {
        if (!isVillage(v) || !within(what, 0, 2)) {
            return LOW + BAD;
        }
        water.followBest(now, PLAIN_WET);
        if (what == 0) {
            return water.uses[v];
        }
        return what == 1 ? water.passes[v] : water.makes[v];
    }

    public int price(int v) {
        if (!isVillage(v)) {
            return LOW + BAD;
        }
        int before = bestOf(PLAIN_WET);
        water.inflow[v]++;
        return water.mostMade(now, 0, now.villages - 1) - before;
    }

    // ---- runs, sharings

    public int run(int a, int b) {
        if (!isVillage(a) || !isVillage(b) || a > b) {
            return LOW + BAD;
        }
        water.fill(now, PLAIN_WET);
        return water.mostMade(now, a, b);
    }

    public int most(int v) {
        if (!isVillage(v)) {
            return BAD;
        }
        water.fill(now, PLAIN_WET);
        return mostOf(v);
    }

    public int share(int sharing, int v, int what) {
        if (!within(sharing, KEEP_ALL, EQUAL) || !isVillage(v) || !within(what, 0, 1)) {
            return LOW + BAD;
        }
        if (what == 1 && sharing == KEEP_ALL) {
            return 0;
        }
        fillShares(sharing);
        return what == 0 ? shares[v] : shares[v] - madeInBest(v);
    }

    public int broken(int sharing) {
        if (!within(sharing, KEEP_ALL, EQUAL)) {
            return BAD;
        }
        fillShares(sharing);
        return breakOfShares();
    }

    public int lawful(int sheet) {
        if (!isSheet(sheet)) {
            return BAD;
        }
        Sheet told = sheets[sheet];
        int refusal = told.refusalAs(INTS);
        if (refusal != 0) {
            return refusal;
        }
        if (!tellsThanks(told)) {
            return STATE;
        }
        water.followBest(now, PLAIN_WET);
        int all = 0;
        for (int v = 0; v < now.villages; v++) {
            all += told.items[v];
            shares[v] = water.makes[v] + told.items[v];
        }
        return all != 0 ? NOT_EVEN : breakOfShares();
    }

    // ---- dirt

    public int cleaning(int v) {
        if (v != -1 && !isVillage(v)) {
            return BAD;
        }
        int coins = dirt.clean(now);
        return v == -1 ? coins : dirt.cleaned[v];
    }

    // ---- years, the dam, treaties

    public int year(int wet) {
        if (!isWet(wet)) {
            return BAD;
        }
        if (now.years == YEARS) {
            return FULL;
        }
        now.wets[now.years] = wet;
        now.years++;
        return now.years - 1;
    }

    public int yearOf(int year, int w) {
        if (!isYear(year) || !isWet(w)) {
            return BAD;
        }
        int was = now.wets[year];
        now.wets[year] = w;
        return was;
    }

    public int dam(int v, int holds) {
        if (v != -1 && !isVillage(v) || !within(holds, 0, MOST_HOLDS)) {
            return BAD;
        }
        now.damAt = v;
        now.holds = holds;
        return 1;
    }

    public int kept(int year) {
        if (year != -1 && !isYear(year)) {
            return LOW + BAD;
        }
        int made = storage.storeBest(now, water);
        return year == -1 ? made : storage.heldBehind[year];
    }

    public int feed(long eight, int n) {
        if (!within(n, 1, 8)) {
            return BAD;
        }
        return reader.takeBytes(eight, n) ? reader.bytes : FULL;
    }

    public int read() {
        int fault = reader.readText();
        if (fault >= 0) {
            return -100 - fault;
        }
        now.treaty.copyFrom(reader.draft);
        return now.treaty.lines;
    }

    public int treaty(int wet, int v, int what) {
        if (!isWet(wet) || !isVillage(v) || !within(what, 0, 3)) {
            return LOW + BAD;
        }
        water.follow(now, wet, BY_TREATY);
        switch (what) {
            case 0:
                return water.comes[v];
            case 1:
                return water.lets[v];
            case 2:
                return water.uses[v];
            default:
                return water.makes[v];
        }
    }

    public int lost() {
        return bestOfYears() - madeInYears(BY_TREATY);
    }

    public int plain(int what) {
        if (!within(what, 0, 1)) {
            return BAD;
        }
        int best = bestOfYears();
        int least = best - madeInYears(0);
        int leastAt = 0;
        for (int m = 1; m <= MOST_PLAIN; m++) {
            int loss = best - madeInYears(m);
            if (loss < least) {
                least = loss;
                leastAt = m;
            }
        }
        return what == 0 ? least : leastAt;
    }

    public int breaks(int wet) {
        if (!isWet(wet)) {
            return BAD;
        }
        water.follow(now, wet, BY_TREATY);
        for (int v = 0; v < now.villages; v++) {
            int use = now.wanted(v, water.comes[v]);
            if (now.made(v, use, water.comes[v] - use) > water.makes[v]) {
                return v;
            }
        }
        return NO_BREACH;
    }

    // ---- rows

    public int prove() {
        water.followBest(now, PLAIN_WET);
        for (int v = 0; v < now.villages; v++) {
            rows[v][ROW_VILLAGE] = v;
            rows[v][ROW_USE] = water.uses[v];
            rows[v][ROW_PASSES] = water.passes[v];
        }
        rowCount = now.villages;
        return rowCount;
    }

    public int row(int i, int what) {
        return isRowPart(i, what) ? rows[i][what] : NO_SUCH_ROW;
    }

    public int alterRow(int i, int what, int v) {
        if (!isRowPart(i, what)) {
            return NO_SUCH_ROW;
        }
        int was = rows[i][what];
        rows[i][what] = v;
        return was;
    }

    public int judge() {
        int best = bestOf(PLAIN_WET);
        int above = 0;
        int all = 0;
        for (int i = 0; i < rowCount; i++) {
            if (!isRight(i, above)) {
                return i + 1;
            }
            above = rows[i][ROW_PASSES];
            all += now.made(i, rows[i][ROW_USE], above);
        }
        if (rowCount != now.villages) {
            return NOT_AS_MANY;
        }
        return all < best ? LESS_THAN_BEST : 0;
    }

    // ---- the host

    public int sheet(int sheet, int sort, int n) {
        if (!isSheet(sheet) || !within(sort, MISSING, LONGS)) {
            return BAD;
        }
        if (sort == MISSING) {
            sheets[sheet].becomeRow(MISSING, 0);
            return 1;
        }
        if (n > SHEET_SIZE) {
            return BAD;
        }
        if (n < 0) {
            return SIZE_BELOW_0;
        }
        sheets[sheet].becomeRow(sort, n);
        return 1;
    }

    public int put(int sheet, int i, int v) {
        if (!isSheet(sheet)) {
            return BAD;
        }
        Sheet row = sheets[sheet];
        if (row.sort == MISSING) {
            return NOTHING;
        }
        if (!row.hasItem(i)) {
            return OUTSIDE;
        }
        row.items[i] = row.narrowed(v);
        return 1;
    }

    public int item(int sheet, int sort, int i) {
        if (!isSheet(sheet) || !within(sort, BYTES, LONGS)) {
            return BAD;
        }
        Sheet row = sheets[sheet];
        int refusal = row.refusalAs(sort);
        if (refusal != 0) {
            return refusal;
        }
        return row.hasItem(i) ? row.items[i] : OUTSIDE;
    }

    public int flows(int v, int sheet, int i, int n) {
        if (!isVillage(v) || !isSheet(sheet) || !within(n, 0, VILLAGES)) {
            return BAD;
        }
        Sheet row = sheets[sheet];
        int refusal = row.refusalAs(SHORTS);
        if (refusal != 0) {
            return refusal;
        }
        int became = 0;
        for (int k = 0; k < n; k++) {
            // An i so high that i + k wraps was outside at k = 0 already.
            if (!row.hasItem(i + k)) {
                return OUTSIDE;
            }
            if (isVillage(v + k) && isFact(FLOW, row.items[i + k])) {
                now.facts[v + k][FLOW] = row.items[i + k];
                became++;
            }
        }
        return became;
    }

    public int shelf(int shelf, int what, int n) {
        if (!isShelf(shelf) || !within(what, SHARING, SHELVE_NOTHING)) {
            return BAD;
        }
        if (what <= A_VILLAGE && !isVillage(n) || what == SHEET_ROW && !isSheet(n)) {
            return BAD;
        }
        shelfKinds[shelf] = EMPTY;
        if (what <= A_VILLAGE) {
            shelfKinds[shelf] = what;
            shelfNumbers[shelf] = n;
        } else if (what == SHEET_ROW && sheets[n].sort != MISSING) {
            shelfKinds[shelf] = A_ROW + sheets[n].sort;
            shelfNumbers[shelf] = sheets[n].size;
        }
        return 1;
    }

    public int taken(int shelf, int as) {
        boolean asThing = within(as, SHARING, A_VILLAGE);
        if (!isShelf(shelf) || !asThing && !within(as, A_ROW, A_ROW + LONGS)) {
            return BAD;
        }
        int kind = heldOn(shelf);
        if (kind == EMPTY) {
            return NOTHING;
        }
        boolean fits = asThing ? isUnder(kind, as) : kind == as;
        return fits ? shelfNumbers[shelf] : OTHER_SORT;
    }

    public int act(int shelf, int act, int x) {
        acts.clearTrace();
        int kind = isShelf(shelf) ? heldOn(shelf) : EMPTY;
        if (!within(kind, SHARING, A_VILLAGE) || !within(act, 0, 3)) {
            return 0;
        }
        int n = shelfNumbers[shelf];
        return acts.play(kind, n, amountOf(kind, n), act, x);
    }

    public int trace(int i) {
        return within(i, 0, acts.ranCount - 1) ? acts.ran[i] : NONE;
    }

    public int many(int what) {
        switch (what) {
            case 0:
                return now.villages;
            case 1:
                return now.years;
            case 2:
                return now.treaty.lines;
            case 3:
                return rowCount;
            case 4:
                return reader.bytes;
            case 5:
                return acts.ranCount;
            case 6:
                return now.holds;
            case 7:
                return now.damAt;
            default:
                return BAD;
        }
    }

    // ---- kept

    public int keep() {
        saved.copyFrom(now);
        hasSaved = true;
        return 1;
    }

    public int again() {
        if (!hasSaved) {
            return NONE;
        }
        now.copyFrom(saved);
        return 1;
    }

    // ---- what numbers must be

    private static boolean within(int n, int least, int most) {
        return least <= n && n <= most;
    }

    private static boolean isWet(int wet) {
        return within(wet, 0, MOST_WET);
    }

    private static boolean isSheet(int sheet) {
        return within(sheet, 0, SHEETS - 1);
    }

    private static boolean isShelf(int shelf) {
        return within(shelf, 0, SHELVES - 1);
    }

    private static boolean isFact(int what, int n) {
        return within(n, LEAST_FACT[what], MOST_FACT[what]);
    }

    private boolean isVillage(int v) {
        return within(v, 0, now.villages - 1);
    }

    private boolean isYear(int year) {
        return within(year, 0, now.years - 1);
    }

    private boolean isRowPart(int i, int what) {
        return within(i, 0, rowCount - 1) && within(what, 0, ROW_PARTS - 1);
    }

    private static boolean tellsWorths(Sheet told) {
        if (told.size != WORTHS) {
            return false;
        }
        int ahead = MOST_WORTH;
        for (int i = 0; i < WORTHS; i++) {
            if (!within(told.items[i], 0, ahead)) {
                return false;
            }
            ahead = told.items[i];
        }
        return true;
    }

    private boolean tellsThanks(Sheet told) {
        if (told.size != now.villages) {
            return false;
        }
        for (int v = 0; v < now.villages; v++) {
            if (!within(told.items[v], -MOST_THANKS, MOST_THANKS)) {
                return false;
            }
        }
        return true;
    }

    // ---- what several calls ask

    private int bestOf(int wet) {
        water.fill(now, wet);
        return water.mostMade(now, 0, now.villages - 1);
    }

    private int madeInBest(int v) {
        water.followBest(now, PLAIN_WET);
        return water.makes[v];
    }

    private int bestOfYears() {
        int all = 0;
        for (int y = 0; y < now.years; y++) {
            all += bestOf(now.wets[y]);
        }
        return all;
    }

    private int madeInYears(int letting) {
        int all = 0;
        for (int y = 0; y < now.years; y++) {
            all += water.follow(now, now.wets[y], letting);
        }
        return all;
    }

    /** MOST of a village, by the inflow that the water was filled with. */
    private int mostOf(int v) {
        int come = 0;
        for (int u = 0; u <= v; u++) {
            come += water.inflow[u];
        }
        return now.together[v][Math.min(come, WORTHS)];
    }

    private void fillShares(int sharing) {
        if (sharing == KEEP_ALL) {
            water.follow(now, PLAIN_WET, 0);
            System.arraycopy(water.makes, 0, shares, 0, now.villages);
            return;
        }
        water.fill(now, PLAIN_WET);
        if (sharing == DOWN) {
            fillSharesDown();
        } else if (sharing == UP) {
            fillSharesUp();
        } else {
            fillSharesEqual();
        }
    }

    private void fillSharesDown() {
        int before = 0;
        for (int v = 0; v < now.villages; v++) {
            int with = water.mostMade(now, 0, v);
            shares[v] = with - before;
            before = with;
        }
    }

    private void fillSharesUp() {
        int last = now.villages - 1;
        int before = 0;
        for (int v = last; v >= 0; v--) {
            int with = water.mostMade(now, v, last);
            shares[v] = with - before;
            before = with;
        }
    }

    private void fillSharesEqual() {
        int count = now.villages;
        if (count == 0) {
            return;
        }
        int all = water.mostMade(now, 0, count - 1);
        int left = Math.floorMod(all, count);
        for (int v = 0; v < count; v++) {
            shares[v] = Math.floorDiv(all, count) + (v < left ? 1 : 0);
        }
    }

    private int breakOfShares() {
        water.fill(now, PLAIN_WET);
        for (int a = 0; a < now.villages; a++) {
            int sum = 0;
            for (int b = a; b < now.villages; b++) {
                sum += shares[b];
                if (sum < water.mostMade(now, a, b)) {
                    return 100 + 10 * a + b;
                }
            }
        }
        for (int v = 0; v < now.villages; v++) {
            if (shares[v] > mostOf(v)) {
                return 200 + v;
            }
        }
        return 0;
    }

    /** Whether row i is right, if those ahead are, the last of which lets so many pass; fills no water. */
    private boolean isRight(int i, int above) {
        if (!isVillage(i) || rows[i][ROW_VILLAGE] != i) {
            return false;
        }
        int come = above + water.inflow[i];
        int use = rows[i][ROW_USE];
        return within(use, 0, Math.min(come, WORTHS)) && rows[i][ROW_PASSES] == come - use;
    }

    /** The kind of thing that a shelf holds by now: its village may be gone. */
    private int heldOn(int shelf) {
        int kind = shelfKinds[shelf];
        boolean gone = within(kind, SHARING, A_VILLAGE) && !isVillage(shelfNumbers[shelf]);
        return gone ? EMPTY : kind;
    }

    private static boolean isUnder(int kind, int above) {
        int at = kind;
        for (int step = 0; step < UNDER.length; step++) {
            if (at == above) {
                return true;
            }
            if (!within(at, 0, UNDER.length - 1)) {
                return false;
            }
            at = UNDER[at];
        }
        return false;
    }

    /** The number a of a thing of a kind, of village n. */
    private int amountOf(int kind, int n) {
        switch (kind) {
            case SHARING:
            case BEST_SHARING:
                return madeInBest(n);
            case A_VILLAGE:
                return now.facts[n][FLOW];
            case DOWN_SHARING:
                fillShares(DOWN);
                break;
            case UP_SHARING:
                fillShares(UP);
                break;
            case EQUAL_SHARING:
                fillShares(EQUAL);
                break;
            default:
                fillShares(KEEP_ALL);
                break;
        }
        return shares[n];
    }

    /** All that keep() keeps: villages, years, the dam, the treaty. */
    private static final class Land {
        int villages = 0;
        final int[][] facts = new int[VILLAGES][FACTS];
        /** The first 0, 1, 2 .. worths of each village together. */
        final int[][] together = new int[VILLAGES][WORTHS + 1];
        int years = 0;
        final int[] wets = new int[YEARS];
        int damAt = -1;
        int holds = 0;
        final Treaty treaty = new Treaty();

        int addVillage(int flow) {
            int v = villages;
            System.arraycopy(FIRST_FACT, 0, facts[v], 0, FACTS);
            facts[v][FLOW] = flow;
            Arrays.fill(together[v], 0);
            villages++;
            return v;
        }

        void takeWorths(int v, int[] items) {
            for (int i = 0; i < WORTHS; i++) {
                together[v][i + 1] = together[v][i] + items[i];
            }
        }

        int made(int v, int use, int passes) {
            return together[v][use] - facts[v][HARM] * Math.max(0, passes - facts[v][BANK]);
        }

        /** How many of the measures a village uses, as long as the next worth is above 0. */
        int wanted(int v, int measures) {
            int use = 0;
            while (use < WORTHS && use < measures && together[v][use + 1] > together[v][use]) {
                use++;
            }
            return use;
        }

        void copyFrom(Land other) {
            villages = other.villages;
            for (int v = 0; v < VILLAGES; v++) {
                System.arraycopy(other.facts[v], 0, facts[v], 0, FACTS);
                System.arraycopy(other.together[v], 0, together[v], 0, WORTHS + 1);
            }
            years = other.years;
            System.arraycopy(other.wets, 0, wets, 0, YEARS);
            damAt = other.damAt;
            holds = other.holds;
            treaty.copyFrom(other.treaty);
        }
    }

    /** What comes in in one year, the most that can be made of it, and one way that it goes down. */
    private static final class Water {
        final int[] inflow = new int[VILLAGES];
        final int[] comes = new int[VILLAGES];
        final int[] lets = new int[VILLAGES];
        final int[] uses = new int[VILLAGES];
        final int[] passes = new int[VILLAGES];
        final int[] makes = new int[VILLAGES];
        /** What a village and those below it make at most, by what passes the one above it. */
        private final int[][] mostFrom = new int[VILLAGES + 1][MEASURES + 1];

        void fill(Land land, int wet) {
            for (int v = 0; v < land.villages; v++) {
                inflow[v] = land.facts[v][FLOW] * wet / 10;
            }
        }

        /** The most that villages a to b make, if nothing passes the one above a; 0 if there are none. */
        int mostMade(Land land, int a, int b) {
            int all = 0;
            for (int v = a; v <= b; v++) {
                all += inflow[v];
            }
            Arrays.fill(mostFrom[b + 1], 0);
            for (int v = b; v >= a; v--) {
                all -= inflow[v];
                for (int above = 0; above <= all; above++) {
                    int come = above + inflow[v];
                    int use = leastBestUse(land, v, come);
                    mostFrom[v][above] = land.made(v, use, come - use) + mostFrom[v + 1][come - use];
                }
            }
            return mostFrom[a][0];
        }

        private int leastBestUse(Land land, int v, int come) {
            int bestUse = 0;
            int best = land.made(v, 0, come) + mostFrom[v + 1][come];
            for (int use = 1; use <= come && use <= WORTHS; use++) {
                int made = land.made(v, use, come - use) + mostFrom[v + 1][come - use];
                if (made > best) {
                    best = made;
                    bestUse = use;
                }
            }
            return bestUse;
        }

        void followBest(Land land, int wet) {
            fill(land, wet);
            mostMade(land, 0, land.villages - 1);
            int above = 0;
            for (int v = 0; v < land.villages; v++) {
                comes[v] = above + inflow[v];
                settle(land, v, leastBestUse(land, v, comes[v]));
                above = passes[v];
            }
        }

        /** By the treaty, or as if each village had to let so many pass: what all make. */
        int follow(Land land, int wet, int letting) {
            fill(land, wet);
            int above = 0;
            int all = 0;
            for (int v = 0; v < land.villages; v++) {
                comes[v] = above + inflow[v];
                int told = letting;
                if (letting == BY_TREATY) {
                    told = land.treaty.toldFor(v, wet, comes[v], land.facts[v][FLOW]);
                }
                lets[v] = Math.min(told, comes[v]);
                settle(land, v, land.wanted(v, comes[v] - lets[v]));
                above = passes[v];
                all += makes[v];
            }
            return all;
        }

        private void settle(Land land, int v, int use) {
            uses[v] = use;
            passes[v] = comes[v] - use;
            makes[v] = land.made(v, use, passes[v]);
        }
    }

    /** What the dam holds from year to year. */
    private static final class Storage {
        final int[] heldBehind = new int[YEARS];
        /** The least best held behind each year, by what is held ahead of it. */
        private final int[][] choices = new int[YEARS][MOST_HOLDS + 1];
        /** What the later years make at most, by what is held ahead of them. */
        private int[] later = new int[MOST_HOLDS + 1];
        private int[] earlier = new int[MOST_HOLDS + 1];
        /** What a year makes in best, by how many more come in at the dam (from -MOST_HOLDS on). */
        private final int[] bests = new int[2 * MOST_HOLDS + 1];

        int storeBest(Land land, Water water) {
            int holds = land.damAt < 0 ? 0 : land.holds;
            Arrays.fill(later, 0);
            for (int y = land.years - 1; y >= 0; y--) {
                water.fill(land, land.wets[y]);
                int inflow = land.damAt < 0 ? 0 : water.inflow[land.damAt];
                fillBests(land, water, inflow, holds);
                for (int ahead = 0; ahead <= holds; ahead++) {
                    choose(y, ahead, Math.min(holds, inflow + ahead));
                }
                int[] spare = later;
                later = earlier;
                earlier = spare;
            }
            int held = 0;
            for (int y = 0; y < land.years; y++) {
                held = choices[y][held];
                heldBehind[y] = held;
            }
            return later[0];
        }

        private void fillBests(Land land, Water water, int inflow, int holds) {
            for (int more = -holds; more <= holds; more++) {
                if (inflow + more < 0) {
                    continue;
                }
                if (land.damAt >= 0) {
                    water.inflow[land.damAt] = inflow + more;
                }
                bests[MOST_HOLDS + more] = water.mostMade(land, 0, land.villages - 1);
            }
        }

        private void choose(int y, int ahead, int mostBehind) {
            choices[y][ahead] = 0;
            earlier[ahead] = bests[MOST_HOLDS + ahead] + later[0];
            for (int behind = 1; behind <= mostBehind; behind++) {
                int made = bests[MOST_HOLDS + ahead - behind] + later[behind];
                if (made > earlier[ahead]) {
                    choices[y][ahead] = behind;
                    earlier[ahead] = made;
                }
            }
        }
    }

    /** Dirt that goes down, cleaned at least cost. */
    private static final class Dirt {
        final int[] cleaned = new int[VILLAGES];
        /** The least coins of a village and those below it, by what comes past the one above. */
        private final int[][] leastFrom = new int[VILLAGES + 1][MOST_DIRT + 1];

        int clean(Land land) {
            int last = land.villages - 1;
            int all = 0;
            for (int v = 0; v <= last; v++) {
                all += land.facts[v][DIRT];
            }
            Arrays.fill(leastFrom[last + 1], 0);
            for (int v = last; v >= 0; v--) {
                all -= land.facts[v][DIRT];
                for (int above = 0; above <= all; above++) {
                    int dirt = above + land.facts[v][DIRT];
                    leastFrom[v][above] = coins(land, v, dirt, leastBest(land, v, dirt));
                }
            }
            int above = 0;
            for (int v = 0; v <= last; v++) {
                int dirt = above + land.facts[v][DIRT];
                cleaned[v] = leastBest(land, v, dirt);
                above = dirt - cleaned[v];
            }
            return leastFrom[0][0];
        }

        private int coins(Land land, int v, int dirt, int clean) {
            return clean * land.facts[v][CLEAN] + leastFrom[v + 1][dirt - clean];
        }

        private int leastBest(Land land, int v, int dirt) {
            int must = 0;
            if (v + 1 < land.villages) {
                must = Math.max(0, dirt - land.facts[v + 1][LIMIT]);
            }
            int best = must;
            for (int clean = must + 1; clean <= dirt; clean++) {
                if (coins(land, v, dirt, clean) < coins(land, v, dirt, best)) {
                    best = clean;
                }
            }
            return best;
        }
    }

    /** Lines that tell how many a village lets pass, each with the condition it holds under. */
    private static final class Treaty {
        static final int MOST_LINES = 8, MOST_STEPS = 200;
        static final int NOT = -1, AND = -2, OR = -3;
        static final int LESS = 0, SAME = 1, MORE = 2;
        /** Values of a comparison above all numbers that it can tell. */
        static final int WET = 1000, COMES = 1001, ITS_FLOW = 1002;
        private static final int VALUE_BITS = 10, VALUE_MASK = 1023;

        int lines = 0;
        final int[] villages = new int[MOST_LINES];
        final int[] amounts = new int[MOST_LINES];
        /** Where the steps of a line's condition end; they begin where those ahead end. */
        final int[] ends = new int[MOST_LINES];
        /** Comparisons, and NOT, AND, OR behind what they join. */
        final int[] steps = new int[MOST_STEPS];
        int stepCount = 0;

        void clear() {
            lines = 0;
            stepCount = 0;
        }

        void addStep(int step) {
            if (stepCount < MOST_STEPS) {
                steps[stepCount] = step;
                stepCount++;
            }
        }

        static int comparison(int left, int sign, int right) {
            return (sign << 2 * VALUE_BITS) | (left << VALUE_BITS) | right;
        }

        void endLine(int village, int amount) {
            if (lines < MOST_LINES) {
                villages[lines] = village;
                amounts[lines] = amount;
                ends[lines] = stepCount;
                lines++;
            }
        }

        /** How many a village must let pass: 0 if no line tells it. */
        int toldFor(int village, int wet, int comes, int flow) {
            int told = 0;
            int from = 0;
            for (int line = 0; line < lines; line++) {
                if (villages[line] == village && holds(from, ends[line], wet, comes, flow)) {
                    told = amounts[line];
                }
                from = ends[line];
            }
            return told;
        }

        /** The pile of what holds is the bits of an int: parts stand few deep within one another. */
        private boolean holds(int from, int to, int wet, int comes, int flow) {
            int pile = 1;
            for (int i = from; i < to; i++) {
                int step = steps[i];
                if (step == NOT) {
                    pile ^= 1;
                } else if (step == AND) {
                    pile = (pile >> 1) & (pile | ~1);
                } else if (step == OR) {
                    pile = (pile >> 1) | (pile & 1);
                } else {
                    pile = (pile << 1) | (compares(step, wet, comes, flow) ? 1 : 0);
                }
            }
            return (pile & 1) == 1;
        }

        private static boolean compares(int step, int wet, int comes, int flow) {
            int sign = step >> 2 * VALUE_BITS;
            int left = valueOf((step >> VALUE_BITS) & VALUE_MASK, wet, comes, flow);
            int right = valueOf(step & VALUE_MASK, wet, comes, flow);
            if (sign == LESS) {
                return left < right;
            }
            return sign == SAME ? left == right : left > right;
        }

        private static int valueOf(int value, int wet, int comes, int flow) {
            switch (value) {
                case WET:
                    return wet;
                case COMES:
                    return comes;
                case ITS_FLOW:
                    return flow;
                default:
                    return value;
            }
        }

        void copyFrom(Treaty other) {
            lines = other.lines;
            stepCount = other.stepCount;
            System.arraycopy(other.villages, 0, villages, 0, MOST_LINES);
            System.arraycopy(other.amounts, 0, amounts, 0, MOST_LINES);
            System.arraycopy(other.ends, 0, ends, 0, MOST_LINES);
            System.arraycopy(other.steps, 0, steps, 0, MOST_STEPS);
        }
    }

    /** The tape, and the treaty that its text tells. */
    private static final class TreatyReader {
        private static final int MOST_BYTES = 200, MOST_DIGITS = 3, MOST_OPEN = 3, MOST_AMOUNT = 99;
        private static final int END = 0, OTHER = 1, NUMBER = 2, LET = 3, IF = 4, OR = 5, AND = 6, NOT = 7;
        private static final int SEMICOLON = 8, OPEN = 9, CLOSE = 10;
        /** Kinds from here on are this and the sign or the value that the treaty has for them. */
        private static final int SIGN = 20, VALUE = 30;

        int bytes = 0;
        final Treaty draft = new Treaty();
        private final int[] tape = new int[MOST_BYTES];
        /** The words, numbers and other bytes of the text, with an END behind the last. */
        private final int[] kinds = new int[MOST_BYTES + 1];
        private final int[] numbers = new int[MOST_BYTES + 1];
        private final int[] places = new int[MOST_BYTES + 1];
        private int at = 0;

        boolean takeBytes(long eight, int n) {
            if (bytes + n > MOST_BYTES) {
                return false;
            }
            for (int i = 0; i < n; i++) {
                tape[bytes] = (int) (eight >> (8 * i)) & 255;
                bytes++;
            }
            return true;
        }

        /** The fault's place, or -1: then the draft is the treaty. The tape is used up. */
        int readText() {
            split();
            bytes = 0;
            at = 0;
            draft.clear();
            for (int line = 0; line < Treaty.MOST_LINES && kinds[at] != END; line++) {
                if (!readLine()) {
                    return places[at];
                }
            }
            return kinds[at] == END ? -1 : places[at];
        }

        private void split() {
            int count = 0;
            for (int from = 0; from < bytes; from++) {
                if (beginsPart(from)) {
                    int to = endOfPart(from);
                    places[count] = from;
                    kinds[count] = kindOfPart(from, to);
                    numbers[count] = kinds[count] == NUMBER ? numberOf(from, to) : 0;
                    count++;
                }
            }
            places[count] = bytes;
            kinds[count] = END;
        }

        private static boolean isLetter(int sign) {
            return 'a' <= sign && sign <= 'z';
        }

        private static boolean isDigit(int sign) {
            return '0' <= sign && sign <= '9';
        }

        private static boolean belongTogether(int sign, int next) {
            return isLetter(sign) && isLetter(next) || isDigit(sign) && isDigit(next);
        }

        private boolean beginsPart(int i) {
            return tape[i] != ' ' && (i == 0 || !belongTogether(tape[i - 1], tape[i]));
        }

        private int endOfPart(int from) {
            int to = from + 1;
            while (to < bytes && belongTogether(tape[from], tape[to])) {
                to++;
            }
            return to;
        }

        private int kindOfPart(int from, int to) {
            if (isLetter(tape[from])) {
                return kindOfWord(from, to);
            }
            if (isDigit(tape[from])) {
                return to - from <= MOST_DIGITS ? NUMBER : OTHER;
            }
            switch (tape[from]) {
                case ';':
                    return SEMICOLON;
                case '(':
                    return OPEN;
                case ')':
                    return CLOSE;
                case '<':
                    return SIGN + Treaty.LESS;
                case '=':
                    return SIGN + Treaty.SAME;
                case '>':
                    return SIGN + Treaty.MORE;
                default:
                    return OTHER;
            }
        }

        private int kindOfWord(int from, int to) {
            if (isWord("let", from, to)) {
                return LET;
            }
            if (isWord("if", from, to)) {
                return IF;
            }
            if (isWord("or", from, to)) {
                return OR;
            }
            if (isWord("and", from, to)) {
                return AND;
            }
            if (isWord("not", from, to)) {
                return NOT;
            }
            if (isWord("wet", from, to)) {
                return VALUE + Treaty.WET;
            }
            if (isWord("comes", from, to)) {
                return VALUE + Treaty.COMES;
            }
            return isWord("flow", from, to) ? VALUE + Treaty.ITS_FLOW : OTHER;
        }

        private boolean isWord(String word, int from, int to) {
            if (word.length() != to - from) {
                return false;
            }
            for (int i = 0; i < word.length(); i++) {
                if (word.charAt(i) != tape[from + i]) {
                    return false;
                }
            }
            return true;
        }

        private int numberOf(int from, int to) {
            int number = 0;
            for (int i = from; i < to; i++) {
                number = 10 * number + tape[i] - '0';
            }
            return number;
        }

        // What reads a part answers whether it is as told; else it stays at the part that isn't.

        private boolean readLine() {
            if (!pass(LET) || !isNumber(VILLAGES - 1)) {
                return false;
            }
            int village = numbers[at];
            at++;
            if (!isNumber(MOST_AMOUNT)) {
                return false;
            }
            int amount = numbers[at];
            at++;
            if (pass(IF) && !readCondition(0)) {
                return false;
            }
            if (!pass(SEMICOLON)) {
                return false;
            }
            draft.endLine(village, amount);
            return true;
        }

        private boolean pass(int kind) {
            if (kinds[at] != kind) {
                return false;
            }
            at++;
            return true;
        }

        private boolean isNumber(int most) {
            return kinds[at] == NUMBER && numbers[at] <= most;
        }

        /** Stands within so many open brackets. An OR waits until all that its right side joins is read. */
        private boolean readCondition(int open) {
            boolean and = false;
            boolean orWaits = false;
            for (int ones = 0; ones < MOST_BYTES; ones++) {
                if (!readOne(open)) {
                    return false;
                }
                if (and) {
                    draft.addStep(Treaty.AND);
                }
                and = pass(AND);
                if (and) {
                    continue;
                }
                if (orWaits) {
                    draft.addStep(Treaty.OR);
                }
                orWaits = pass(OR);
                if (!orWaits) {
                    return true;
                }
            }
            return false;
        }

        private boolean readOne(int open) {
            boolean turned = false;
            for (int nots = 0; nots < MOST_BYTES && pass(NOT); nots++) {
                turned = !turned;
            }
            if (kinds[at] != OPEN) {
                if (!readComparison()) {
                    return false;
                }
            } else if (open == MOST_OPEN || !pass(OPEN) || !readCondition(open + 1) || !pass(CLOSE)) {
                return false;
            }
            if (turned) {
                draft.addStep(Treaty.NOT);
            }
            return true;
        }

        private boolean readComparison() {
            int left = value();
            if (left < 0) {
                return false;
            }
            at++;
            int sign = kinds[at] - SIGN;
            if (!within(sign, Treaty.LESS, Treaty.MORE)) {
                return false;
            }
            at++;
            int right = value();
            if (right < 0) {
                return false;
            }
            at++;
            draft.addStep(Treaty.comparison(left, sign, right));
            return true;
        }

        /** The value that stands here as the treaty has it, or -1. */
        private int value() {
            if (kinds[at] == NUMBER) {
                return numbers[at];
            }
            return kinds[at] >= VALUE ? kinds[at] - VALUE : -1;
        }
    }

    /** A row of items of a sort, or missing. Ints hold all that can be put into longs, too. */
    private static final class Sheet {
        int sort = MISSING;
        int size = 0;
        final int[] items = new int[SHEET_SIZE];

        void becomeRow(int newSort, int n) {
            sort = newSort;
            size = n;
            Arrays.fill(items, 0);
        }

        /** Why it can't be taken for a row of a sort; 0: it can. */
        int refusalAs(int wanted) {
            if (sort == MISSING) {
                return NOTHING;
            }
            return sort == wanted ? 0 : OTHER_SORT;
        }

        boolean hasItem(int i) {
            return within(i, 0, size - 1);
        }

        int narrowed(int v) {
            if (sort == BYTES) {
                return (byte) v;
            }
            return sort == SHORTS ? (short) v : v;
        }
    }

    /** One act of a thing: the bodies that run, and what they answer. */
    private static final class Acts {
        private static final int PARTED_BY_0 = -15, DEEPEST = 40, MOST_RAN = 30;
        private static final int TAKES = 0, LETS = 1, PAYS = 2, TELLS = 3;
        /** Which body each kind has for the four acts: its own, or that of the nearest kind above. */
        private static final int[] BODIES = {
            10, 11, 12, 13,
            10, 20, 12, 13,
            30, 11, 12, 13,
            30, 40, 12, 41,
            30, 11, 50, 13,
            60, 40, 61, 41,
            70, 71, 72, 73,
        };

        final int[] ran = new int[MOST_RAN];
        int ranCount = 0;
        private int self = SHARING;
        private int n = 0;
        private int a = 0;
        private boolean parted = false;

        void clearTrace() {
            ranCount = 0;
        }

        int play(int kind, int number, int amount, int act, int x) {
            self = kind;
            n = number;
            a = amount;
            parted = false;
            int told = perform(kind, act, x, 0);
            return parted ? PARTED_BY_0 : told;
        }

        /** An act as a kind (the thing's own, or one above it, asked by super) has it. */
        private int perform(int kind, int act, int x, int depth) {
            if (depth > DEEPEST) {
                return 0;
            }
            int body = BODIES[4 * kind + act];
            if (ranCount < MOST_RAN) {
                ran[ranCount] = body;
                ranCount++;
            }
            return answerOf(body, x, depth + 1);
        }

        private int answerOf(int body, int x, int deeper) {
            switch (body) {
                case 10:
                    return x + a;
                case 11:
                    return perform(self, TAKES, x, deeper) * 2;
                case 12:
                    return quotient(x, a - n);
                case 13:
                    return perform(self, LETS, x, deeper) ^ n;
                case 20:
                    return 0 - perform(SHARING, LETS, x, deeper);
                case 30:
                    return perform(SHARING, TAKES, x, deeper) * 3;
                case 40:
                    return perform(BEST_SHARING, LETS, x, deeper) + a;
                case 41:
                    return perform(BEST_SHARING, TELLS, x, deeper) + perform(self, PAYS, n + 1, deeper);
                case 50:
                    return perform(BEST_SHARING, PAYS, x - 1, deeper);
                case 60:
                    return perform(DOWN_SHARING, TAKES, x, deeper) ^ a;
                case 61:
                    return perform(DOWN_SHARING, PAYS, x + 2, deeper);
                case 70:
                    return x - a;
                case 71:
                    return perform(self, TAKES, x, deeper) * n;
                case 72:
                    return x ^ a;
                case 73:
                    return perform(self, LETS, x, deeper) + perform(self, PAYS, n, deeper);
                default:
                    return 0;
            }
        }

        private int quotient(int x, int by) {
            if (by == 0) {
                parted = true;
                return 0;
            }
            return x / by;
        }
    }
}
