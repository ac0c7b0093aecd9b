import java.util.List;

/** A refused call answers the first refusal that the document names, and changes nothing. */
final class RefusalsTest {
    private static final int BAD = -1, FULL = -2, NONE = -3, STATE = -4, LOW_BAD = -1000001;
    private static final int NOTHING = -11, OUTSIDE = -12, OTHER_SORT = -13, BELOW_0 = -14, NO_ROW = -9;
    private static final int MIN = Integer.MIN_VALUE, MAX = Integer.MAX_VALUE;
    private static final int[] LEAST_FACT = {0, 0, 0, 0, 0, 1};
    private static final int[] MOST_FACT = {12, 99, 9, 20, 99, 9};

    /** What is done with an object. */
    private interface Call {
        int on(WaterThanks x);
    }

    private static final Call NO_CALL = x -> 0;

    private Call prepare = NO_CALL;
    private final Call make;
    private final List<String> unchanged;

    private RefusalsTest(Call make) {
        this.make = make;
        this.unchanged = Look.at(made());
    }

    public static void main(String[] args) {
        RefusalsTest settled = new RefusalsTest(RefusalsTest::settle);
        settled.villages();
        settled.factsRefused();
        settled.worthsRefused();
        settled.sharings();
        settled.lawfulRefused();
        settled.years();
        settled.texts();
        settled.rows();
        settled.sheets();
        settled.flowsRefused();
        settled.shelves();
        full();
        fresh();
        readUsesTheTapeUp();
        partedChangesNothingElse();
        Check.end();
    }

    /** Three villages, years, a dam, a treaty, all of which differ from what is kept; and all of the host. */
    private static int settle(WaterThanks x) {
        x.village(6);
        x.village(2);
        x.village(0);
        Check.worths(x, 0, 20, 15, 10, 5, 5, 5);
        Check.worths(x, 1, 18, 12, 6);
        x.year(4);
        x.year(13);
        x.dam(1, 2);
        Check.read(x, "let 0 2 if wet > 11; let 1 1;");
        x.keep();
        Check.worths(x, 2, 30, 20, 10, 8, 4, 2, 1);
        for (int what = 0; what < 6; what++) {
            x.set(1, what, what + 2);
        }
        x.year(20);
        x.dam(2, 3);
        Check.read(x, "let 0 3; let 2 1 if wet = 13; let 1 4 if not comes < 3;");
        Check.fill(x, 0, 0, 9, 8, 7, 6, 5, 5, 5, 5, 4, 3, 2, 1);
        Check.fill(x, 1, 1, 7, 13, 1);
        Check.fill(x, 2, 2, 15, 1, -16);
        x.prove();
        x.alterRow(1, 1, 9);
        x.shelf(0, 6, 1);
        x.shelf(1, 5, 2);
        x.shelf(2, 7, 1);
        x.act(0, 3, 5);
        Check.feed(x, "let 1 4;");
        return 0;
    }

    private WaterThanks made() {
        WaterThanks x = new WaterThanks();
        make.on(x);
        prepare.on(x);
        return x;
    }

    private void refused(String call, int due, Call asked) {
        WaterThanks x = made();
        Check.due(call, asked.on(x), due);
        Check.due(call + " again", asked.on(x), due);
        List<String> before = prepare == NO_CALL ? unchanged : Look.at(made());
        List<String> after = Look.at(x);
        for (int i = 0; i < before.size() && i < after.size(); i++) {
            if (!before.get(i).equals(after.get(i))) {
                Check.due("behind the refused " + call + ": " + after.get(i) + " was " + before.get(i), false);
            }
        }
        Check.due("as much is told behind the refused " + call, after.size(), before.size());
    }

    /** A number beside those that are told, on either side, and the extremes. */
    private static int[] beside(int least, int most) {
        return new int[] {least - 1, most + 1, MIN, MAX};
    }

    private void villages() {
        for (int flow : beside(0, 12)) {
            refused("village(" + flow + ")", BAD, x -> x.village(flow));
        }
        for (int v : beside(0, 2)) {
            refused("villageOf(" + v + ", 0)", BAD, x -> x.villageOf(v, 0));
            refused("worth(" + v + ", 0)", BAD, x -> x.worth(v, 0));
            refused("use(" + v + ", 0)", LOW_BAD, x -> x.use(v, 0));
            refused("price(" + v + ")", LOW_BAD, x -> x.price(v));
            refused("most(" + v + ")", BAD, x -> x.most(v));
        }
        for (int what : beside(0, 5)) {
            refused("villageOf(0, " + what + ")", BAD, x -> x.villageOf(0, what));
            refused("set(0, " + what + ", 1)", BAD, x -> x.set(0, what, 1));
        }
        for (int n : beside(0, 12)) {
            refused("worth(0, " + n + ")", BAD, x -> x.worth(0, n));
        }
        for (int wet : beside(0, 20)) {
            refused("best(" + wet + ")", LOW_BAD, x -> x.best(wet));
        }
        for (int what : beside(0, 2)) {
            refused("use(0, " + what + ")", LOW_BAD, x -> x.use(0, what));
        }
    }

    private void factsRefused() {
        for (int what = 0; what < 6; what++) {
            int w = what;
            for (int n : beside(LEAST_FACT[what], MOST_FACT[what])) {
                refused("set(1, " + w + ", " + n + ")", BAD, x -> x.set(1, w, n));
            }
            for (int v : beside(0, 2)) {
                refused("set(" + v + ", " + w + ", 1)", BAD, x -> x.set(v, w, 1));
            }
        }
    }

    private void worthsRefused() {
        for (int v : beside(0, 2)) {
            refused("worths(" + v + ", 0)", BAD, x -> x.worths(v, 0));
            refused("worths(" + v + ", 1), of another sort", BAD, x -> x.worths(v, 1));
            refused("worths(" + v + ", 3), missing", BAD, x -> x.worths(v, 3));
        }
        for (int sheet : beside(0, 3)) {
            refused("worths(0, " + sheet + ")", BAD, x -> x.worths(0, sheet));
        }
        refused("worths of shorts", OTHER_SORT, x -> x.worths(0, 1));
        refused("worths of ints", OTHER_SORT, x -> x.worths(0, 2));
        refused("worths of a missing sheet", NOTHING, x -> x.worths(0, 3));
        for (int sort = 1; sort < 4; sort++) {
            int s = sort;
            prepare = x -> x.sheet(3, s, 12);
            refused("worths of 12 of sort " + s, OTHER_SORT, x -> x.worths(0, 3));
        }
        for (int n : new int[] {0, 1, 11, 13, 40}) {
            prepare = x -> x.sheet(3, 0, n);
            refused("worths of " + n + " bytes", STATE, x -> x.worths(0, 3));
        }
        for (int i = 0; i < 12; i++) {
            for (int n : new int[] {-1, 100, 127, -128}) {
                wrongWorth(i, n);
            }
            if (i > 0) {
                wrongWorth(i, 11 - i + 2);
            }
        }
        prepare = NO_CALL;
    }

    /** Worths 11, 10 .. 0, but for one. */
    private void wrongWorth(int at, int n) {
        prepare = x -> {
            x.sheet(3, 0, 12);
            for (int i = 0; i < 12; i++) {
                x.put(3, i, i == at ? n : 11 - i);
            }
            return 0;
        };
        refused("worths with " + n + " at " + at, STATE, x -> x.worths(2, 3));
    }

    private void sharings() {
        for (int v : beside(0, 2)) {
            refused("run(" + v + ", 2)", LOW_BAD, x -> x.run(v, 2));
            refused("run(0, " + v + ")", LOW_BAD, x -> x.run(0, v));
            refused("run(" + v + ", " + v + ")", LOW_BAD, x -> x.run(v, v));
            refused("share(1, " + v + ", 0)", LOW_BAD, x -> x.share(1, v, 0));
            refused("share(0, " + v + ", 1)", LOW_BAD, x -> x.share(0, v, 1));
        }
        refused("run(1, 0)", LOW_BAD, x -> x.run(1, 0));
        refused("run(2, 1)", LOW_BAD, x -> x.run(2, 1));
        refused("run(2, 0)", LOW_BAD, x -> x.run(2, 0));
        for (int sharing : beside(0, 3)) {
            refused("share(" + sharing + ", 0, 0)", LOW_BAD, x -> x.share(sharing, 0, 0));
            refused("broken(" + sharing + ")", BAD, x -> x.broken(sharing));
        }
        for (int what : beside(0, 1)) {
            refused("share(0, 0, " + what + ")", LOW_BAD, x -> x.share(0, 0, what));
            refused("share(3, 2, " + what + ")", LOW_BAD, x -> x.share(3, 2, what));
        }
        for (int v : beside(-1, 2)) {
            refused("cleaning(" + v + ")", BAD, x -> x.cleaning(v));
        }
    }

    private void lawfulRefused() {
        for (int sheet : beside(0, 3)) {
            refused("lawful(" + sheet + ")", BAD, x -> x.lawful(sheet));
        }
        refused("lawful of bytes", OTHER_SORT, x -> x.lawful(0));
        refused("lawful of shorts", OTHER_SORT, x -> x.lawful(1));
        refused("lawful of a missing sheet", NOTHING, x -> x.lawful(3));
        prepare = x -> x.sheet(3, 3, 3);
        refused("lawful of longs", OTHER_SORT, x -> x.lawful(3));
        for (int n : new int[] {0, 1, 2, 4, 40}) {
            prepare = x -> x.sheet(3, 2, n);
            refused("lawful of " + n + " ints", STATE, x -> x.lawful(3));
        }
        for (int i = 0; i < 3; i++) {
            for (int n : beside(-9999, 9999)) {
                int at = i;
                prepare = x -> x.put(2, at, n);
                refused("lawful with " + n + " at " + at, STATE, x -> x.lawful(2));
            }
        }
        prepare = NO_CALL;
    }

    private void years() {
        for (int wet : beside(0, 20)) {
            refused("year(" + wet + ")", BAD, x -> x.year(wet));
            refused("yearOf(1, " + wet + ")", BAD, x -> x.yearOf(1, wet));
            refused("breaks(" + wet + ")", BAD, x -> x.breaks(wet));
            refused("treaty(" + wet + ", 0, 0)", LOW_BAD, x -> x.treaty(wet, 0, 0));
        }
        for (int year : beside(0, 2)) {
            refused("yearOf(" + year + ", 7)", BAD, x -> x.yearOf(year, 7));
        }
        for (int year : beside(-1, 2)) {
            refused("kept(" + year + ")", LOW_BAD, x -> x.kept(year));
        }
        for (int v : beside(-1, 2)) {
            refused("dam(" + v + ", 1)", BAD, x -> x.dam(v, 1));
        }
        for (int holds : beside(0, 4)) {
            refused("dam(0, " + holds + ")", BAD, x -> x.dam(0, holds));
            refused("dam(-1, " + holds + ")", BAD, x -> x.dam(-1, holds));
        }
        for (int v : beside(0, 2)) {
            refused("treaty(10, " + v + ", 1)", LOW_BAD, x -> x.treaty(10, v, 1));
        }
        for (int what : beside(0, 3)) {
            refused("treaty(10, 0, " + what + ")", LOW_BAD, x -> x.treaty(10, 0, what));
        }
        for (int what : beside(0, 1)) {
            refused("plain(" + what + ")", BAD, x -> x.plain(what));
        }
    }

    private void texts() {
        for (int n : beside(1, 8)) {
            refused("feed of " + n, BAD, x -> x.feed(0x3b3b3b3bL, n));
        }
        prepare = x -> {
            for (int i = 0; i < 23; i++) {
                x.feed(0x2020202020202020L, 8);
            }
            return x.feed(0x20202020L, 4);
        };
        for (int n = 5; n <= 8; n++) {
            int many = n;
            refused("feed of " + many + " to 196", FULL, x -> x.feed(0x3b3b3b3bL, many));
        }
        refused("feed of 9 to 196", BAD, x -> x.feed(0x3b3b3b3bL, 9));
        prepare = NO_CALL;
    }

    private void rows() {
        for (int i : beside(0, 2)) {
            refused("row(" + i + ", 0)", NO_ROW, x -> x.row(i, 0));
            refused("alterRow(" + i + ", 0, 5)", NO_ROW, x -> x.alterRow(i, 0, 5));
        }
        for (int what : beside(0, 2)) {
            refused("row(0, " + what + ")", NO_ROW, x -> x.row(0, what));
            refused("alterRow(0, " + what + ", 5)", NO_ROW, x -> x.alterRow(0, what, 5));
        }
        refused("trace(4)", NONE, x -> x.trace(4));
        for (int i : beside(0, 29)) {
            refused("trace(" + i + ")", NONE, x -> x.trace(i));
        }
        for (int what : beside(0, 7)) {
            refused("many(" + what + ")", BAD, x -> x.many(what));
        }
    }

    private void sheets() {
        for (int sheet : beside(0, 3)) {
            refused("sheet(" + sheet + ", 0, 1)", BAD, x -> x.sheet(sheet, 0, 1));
            refused("sheet(" + sheet + ", 0, -1)", BAD, x -> x.sheet(sheet, 0, -1));
            refused("sheet(" + sheet + ", -1, 0)", BAD, x -> x.sheet(sheet, -1, 0));
            refused("put(" + sheet + ", 99, 1)", BAD, x -> x.put(sheet, 99, 1));
            refused("item(" + sheet + ", 0, 99)", BAD, x -> x.item(sheet, 0, 99));
        }
        for (int sort : beside(-1, 3)) {
            refused("sheet(0, " + sort + ", 1)", BAD, x -> x.sheet(0, sort, 1));
            refused("sheet(0, " + sort + ", -1)", BAD, x -> x.sheet(0, sort, -1));
        }
        for (int sort : beside(0, 3)) {
            refused("item(0, " + sort + ", 99)", BAD, x -> x.item(0, sort, 99));
            refused("item(3, " + sort + ", 0)", BAD, x -> x.item(3, sort, 0));
        }
        for (int sort = 0; sort < 4; sort++) {
            int s = sort;
            refused("sheet(0, " + s + ", 41)", BAD, x -> x.sheet(0, s, 41));
            refused("sheet(1, " + s + ", MAX)", BAD, x -> x.sheet(1, s, MAX));
            refused("sheet(0, " + s + ", -1)", BELOW_0, x -> x.sheet(0, s, -1));
            refused("sheet(3, " + s + ", MIN)", BELOW_0, x -> x.sheet(3, s, MIN));
            refused("item of a missing sheet as " + s, NOTHING, x -> x.item(3, s, 99));
            for (int i = 0; i < 3; i++) {
                int sheet = i;
                if (sheet != s) {
                    refused("item(" + sheet + ", " + s + ", 99)", OTHER_SORT, x -> x.item(sheet, s, 99));
                }
            }
        }
        for (int i : beside(0, 2)) {
            refused("put(1, " + i + ", 5)", OUTSIDE, x -> x.put(1, i, 5));
            refused("item(1, 1, " + i + ")", OUTSIDE, x -> x.item(1, 1, i));
            refused("put to a missing sheet, " + i, NOTHING, x -> x.put(3, i, 5));
        }
    }

    private void flowsRefused() {
        for (int v : beside(0, 2)) {
            refused("flows(" + v + ", 1, 0, 1)", BAD, x -> x.flows(v, 1, 0, 1));
            refused("flows(" + v + ", 0, 0, 1)", BAD, x -> x.flows(v, 0, 0, 1));
        }
        for (int sheet : beside(0, 3)) {
            refused("flows(0, " + sheet + ", 0, 1)", BAD, x -> x.flows(0, sheet, 0, 1));
        }
        for (int n : beside(0, 6)) {
            refused("flows(0, 1, 0, " + n + ")", BAD, x -> x.flows(0, 1, 0, n));
            refused("flows(0, 2, 99, " + n + ")", BAD, x -> x.flows(0, 2, 99, n));
            refused("flows(0, 3, 99, " + n + ")", BAD, x -> x.flows(0, 3, 99, n));
        }
        refused("flows of bytes", OTHER_SORT, x -> x.flows(0, 0, 99, 1));
        refused("flows of ints", OTHER_SORT, x -> x.flows(0, 2, 99, 1));
        refused("flows of a missing sheet", NOTHING, x -> x.flows(0, 3, 99, 1));
        for (int i : beside(0, 2)) {
            refused("flows(0, 1, " + i + ", 1)", OUTSIDE, x -> x.flows(0, 1, i, 1));
            refused("flows(0, 1, " + i + ", 6)", OUTSIDE, x -> x.flows(0, 1, i, 6));
        }
    }

    private void shelves() {
        for (int shelf : beside(0, 3)) {
            refused("shelf(" + shelf + ", 6, 0)", BAD, x -> x.shelf(shelf, 6, 0));
            refused("shelf(" + shelf + ", 8, 0)", BAD, x -> x.shelf(shelf, 8, 0));
            refused("taken(" + shelf + ", 6)", BAD, x -> x.taken(shelf, 6));
        }
        for (int what : beside(0, 8)) {
            refused("shelf(0, " + what + ", 0)", BAD, x -> x.shelf(0, what, 0));
        }
        for (int what = 0; what < 7; what++) {
            int w = what;
            for (int n : beside(0, 2)) {
                refused("shelf(0, " + w + ", " + n + ")", BAD, x -> x.shelf(0, w, n));
            }
        }
        for (int sheet : beside(0, 3)) {
            refused("shelf(0, 7, " + sheet + ")", BAD, x -> x.shelf(0, 7, sheet));
        }
        for (int as : new int[] {-1, 7, 8, 9, 14, MIN, MAX}) {
            refused("taken(0, " + as + ")", BAD, x -> x.taken(0, as));
            refused("taken(3, " + as + ")", BAD, x -> x.taken(3, as));
        }
        refused("a village for a sharing", OTHER_SORT, x -> x.taken(0, 0));
        refused("a village for a row", OTHER_SORT, x -> x.taken(0, 10));
        refused("EQUAL for UP", OTHER_SORT, x -> x.taken(1, 4));
        refused("a row of shorts for one of bytes", OTHER_SORT, x -> x.taken(2, 10));
        refused("a row for a village", OTHER_SORT, x -> x.taken(2, 6));
        for (int as : new int[] {0, 1, 2, 3, 4, 5, 6, 10, 11, 12, 13}) {
            refused("nothing for " + as, NOTHING, x -> x.taken(3, as));
        }
    }

    /** Six villages and six years: one more is refused, but first what is not as told. */
    private static void full() {
        RefusalsTest full = new RefusalsTest(x -> {
            for (int i = 0; i < 6; i++) {
                x.village(2 * i);
                x.year(3 * i);
            }
            return x.keep();
        });
        for (int n : new int[] {0, 1, 12}) {
            full.refused("the seventh village, " + n, FULL, x -> x.village(n));
            full.refused("the seventh year, " + n, FULL, x -> x.year(n));
        }
        for (int flow : beside(0, 12)) {
            full.refused("the seventh village, " + flow, BAD, x -> x.village(flow));
        }
        for (int wet : beside(0, 20)) {
            full.refused("the seventh year, " + wet, BAD, x -> x.year(wet));
        }
        full.refused("villageOf(6, 0)", BAD, x -> x.villageOf(6, 0));
        full.refused("yearOf(6, 0)", BAD, x -> x.yearOf(6, 0));
        full.refused("kept(6)", LOW_BAD, x -> x.kept(6));
        full.refused("run(0, 6)", LOW_BAD, x -> x.run(0, 6));
        full.refused("dam(6, 0)", BAD, x -> x.dam(6, 0));
    }

    /** Of a new object there is neither a village nor a year, and no number is so low that it were one. */
    private static void fresh() {
        RefusalsTest fresh = new RefusalsTest(NO_CALL);
        for (int v : new int[] {-1, 0, 1, 5, MIN, MAX}) {
            fresh.refused("villageOf(" + v + ", 0)", BAD, x -> x.villageOf(v, 0));
            fresh.refused("set(" + v + ", 0, 0)", BAD, x -> x.set(v, 0, 0));
            fresh.refused("worths(" + v + ", 0)", BAD, x -> x.worths(v, 0));
            fresh.refused("worth(" + v + ", 0)", BAD, x -> x.worth(v, 0));
            fresh.refused("use(" + v + ", 0)", LOW_BAD, x -> x.use(v, 0));
            fresh.refused("price(" + v + ")", LOW_BAD, x -> x.price(v));
            fresh.refused("run(" + v + ", " + v + ")", LOW_BAD, x -> x.run(v, v));
            fresh.refused("run(0, " + v + ")", LOW_BAD, x -> x.run(0, v));
            fresh.refused("most(" + v + ")", BAD, x -> x.most(v));
            fresh.refused("share(0, " + v + ", 1)", LOW_BAD, x -> x.share(0, v, 1));
            fresh.refused("share(3, " + v + ", 0)", LOW_BAD, x -> x.share(3, v, 0));
            fresh.refused("yearOf(" + v + ", 0)", BAD, x -> x.yearOf(v, 0));
            fresh.refused("treaty(10, " + v + ", 0)", LOW_BAD, x -> x.treaty(10, v, 0));
            fresh.refused("flows(" + v + ", 0, 0, 0)", BAD, x -> x.flows(v, 0, 0, 0));
            fresh.refused("shelf(0, 6, " + v + ")", BAD, x -> x.shelf(0, 6, v));
            fresh.refused("shelf(0, 0, " + v + ")", BAD, x -> x.shelf(0, 0, v));
            fresh.refused("row(" + v + ", 0)", NO_ROW, x -> x.row(v, 0));
            fresh.refused("alterRow(" + v + ", 0, 1)", NO_ROW, x -> x.alterRow(v, 0, 1));
            fresh.refused("trace(" + v + ")", NONE, x -> x.trace(v));
        }
        for (int n : new int[] {0, 1, -2, MIN, MAX}) {
            fresh.refused("kept(" + n + ")", LOW_BAD, x -> x.kept(n));
            fresh.refused("cleaning(" + n + ")", BAD, x -> x.cleaning(n));
            fresh.refused("dam(" + n + ", 0)", BAD, x -> x.dam(n, 0));
        }
        fresh.refused("lawful of a missing sheet", NOTHING, x -> x.lawful(0));
        fresh.refused("again()", NONE, x -> x.again());
    }

    private static void readUsesTheTapeUp() {
        String[] texts = {"let", "let 0 1;;", "let 6 1;", ";", "let 0 1; let 1 2; let 2 3 if", "let 0 1 if 1=1 or"};
        for (String text : texts) {
            WaterThanks x = new WaterThanks();
            settle(x);
            x.read();
            WaterThanks y = new WaterThanks();
            settle(y);
            y.read();
            Check.feed(x, text);
            Check.due("refused: " + text, x.read() <= -100);
            Check.due("the tape is used up by: " + text, x.many(4), 0);
            Check.due("nothing else is changed by: " + text, Look.at(x).equals(Look.at(y)));
        }
    }

    /** But THE TRACE: it is of the latest act. */
    private static void partedChangesNothingElse() {
        WaterThanks x = new WaterThanks();
        WaterThanks y = new WaterThanks();
        for (WaterThanks z : new WaterThanks[] {x, y}) {
            settle(z);
            z.set(2, 0, 0);
            Check.worths(z, 2);
            Check.worths(z, 1);
            Check.worths(z, 0);
            z.shelf(1, 0, 0);
            z.act(0, 2, 5);
        }
        Check.due("what nothing is worth is parted by 0", x.act(1, 2, 5), -15);
        Check.due("its body began", x.trace(0), 12);
        Check.due("the next act", x.act(0, 2, 5), y.act(0, 2, 5));
        Check.due("parted by 0, all is as it was", Look.at(x).equals(Look.at(y)));
    }
}
