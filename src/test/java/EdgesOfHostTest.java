/** The edges that section 5 of the document's Terms names, and those of what is kept. */
final class EdgesOfHostTest {
    private static final int MIN = Integer.MIN_VALUE, MAX = Integer.MAX_VALUE;
    private static final int[] UNDER = {-1, 0, 0, 2, 2, 3, -1};

    public static void main(String[] args) {
        sizesOnEitherSide();
        newRowsAreAll0();
        missingCountsNoSize();
        narrowedOnEitherSide();
        placesOnEitherSide();
        takenForSorts();
        flowsOnEitherSide();
        flowsWithoutVillages();
        flowsUpToTheEnd();
        shelvesOnEitherSide();
        nothingOnShelves();
        takenForKinds();
        rowsOnShelves();
        goneVillages();
        intsThatWrap();
        quotientsAreCut();
        partedBy0();
        actsOnEitherSide();
        traceOnEitherSide();
        manyOnEitherSide();
        againBringsBack();
        againLeavesTheRest();
        againLeavesNothingBehind();
        Check.end();
    }

    private static void sizesOnEitherSide() {
        for (int sheet = -1; sheet <= 4; sheet++) {
            for (int sort = -2; sort <= 4; sort++) {
                for (int n : new int[] {MIN, -2, -1, 0, 1, 39, 40, 41, 42, MAX}) {
                    WaterThanks x = new WaterThanks();
                    boolean bad = sheet < 0 || sheet > 3 || sort < -1 || sort > 3 || sort >= 0 && n > 40;
                    int due = bad ? -1 : sort >= 0 && n < 0 ? -14 : 1;
                    Check.due("sheet(" + sheet + ", " + sort + ", " + n + ")", x.sheet(sheet, sort, n), due);
                    if (sheet >= 0 && sheet <= 3) {
                        boolean is = due == 1 && sort >= 0;
                        Check.due("its last", x.item(sheet, Math.max(0, Math.min(3, sort)), n - 1), !is ? -11 : n > 0 ? 0 : -12);
                        Check.due("behind its last", x.put(sheet, n, 5), is ? -12 : -11);
                    }
                }
            }
        }
    }

    private static void newRowsAreAll0() {
        WaterThanks x = new WaterThanks();
        for (int sort = 0; sort < 4; sort++) {
            x.sheet(2, sort, 40);
            for (int i = 0; i < 40; i++) {
                Check.due("0 at " + i, x.item(2, sort, i), 0);
                x.put(2, i, 7);
            }
            Check.due("a row again", x.sheet(2, sort, 3), 1);
            Check.due("shorter", x.item(2, sort, 3), -12);
        }
        for (int i = 0; i < 3; i++) {
            x.put(2, i, 8);
        }
        x.sheet(2, 3, 40);
        for (int i = 0; i < 40; i++) {
            Check.due("all 0 again, " + i, x.item(2, 3, i), 0);
        }
        for (int s = 0; s < 4; s++) {
            Check.due("the others are missing", x.put(s, 0, 1), s == 2 ? 1 : -11);
        }
    }

    private static void missingCountsNoSize() {
        WaterThanks x = new WaterThanks();
        for (int n : new int[] {MIN, -1, 0, 1, 40, 41, MAX}) {
            x.sheet(1, 0, 2);
            Check.due("missing, n " + n, x.sheet(1, -1, n), 1);
            Check.due("is missing", x.put(1, 0, 1), -11);
            Check.due("missing again", x.sheet(1, -1, n), 1);
        }
    }

    private static void narrowedOnEitherSide() {
        int[] told = {0, 1, -1, 127, 128, 129, -127, -128, -129, 255, 256, 257, -255, -256, 32767, 32768, -32768, -32769,
            65535, 65536, -65536, 0x12345678, MAX, MIN};
        WaterThanks x = new WaterThanks();
        for (int sort = 0; sort < 4; sort++) {
            x.sheet(sort, sort, 1);
            for (int v : told) {
                int due = sort == 0 ? v << 24 >> 24 : sort == 1 ? v << 16 >> 16 : v;
                Check.due("put " + v, x.put(sort, 0, v), 1);
                Check.due(v + " in a row of " + sort, x.item(sort, sort, 0), due);
            }
        }
    }

    private static void placesOnEitherSide() {
        for (int sort = 0; sort < 4; sort++) {
            for (int n : new int[] {0, 1, 2, 39, 40}) {
                WaterThanks x = new WaterThanks();
                x.sheet(3, sort, n);
                for (int i : new int[] {MIN, -1, 0, 1, n - 2, n - 1, n, n + 1, 40, MAX}) {
                    boolean there = i >= 0 && i < n;
                    Check.due("put at " + i + " of " + n, x.put(3, i, 9), there ? 1 : -12);
                    Check.due("item at " + i + " of " + n, x.item(3, sort, i), there ? 9 : -12);
                }
            }
        }
    }

    private static void takenForSorts() {
        WaterThanks x = new WaterThanks();
        for (int sort = 0; sort < 4; sort++) {
            x.sheet(0, sort, 1);
            for (int as = -2; as <= 5; as++) {
                int due = as < 0 || as > 3 ? -1 : as == sort ? 0 : -13;
                Check.due("a row of " + sort + " for " + as, x.item(0, as, 0), due);
                Check.due("a row of " + sort + " for " + as + ", outside", x.item(0, as, 1), due == 0 ? -12 : due);
                Check.due("a missing one for " + as, x.item(1, as, 0), as < 0 || as > 3 ? -1 : -11);
            }
        }
        // items as low as refusals
        x.sheet(0, 0, 1);
        for (int v = -15; v < 0; v++) {
            x.put(0, 0, v);
            Check.due("an item as low", x.item(0, 0, 0), v);
        }
    }

    private static void flowsOnEitherSide() {
        int[] items = {-32768, -1, 0, 1, 11, 12, 13, 127, 128, 256, 268, 32767};
        for (int item : items) {
            WaterThanks x = Check.villages(5);
            Check.fill(x, 0, 1, item);
            boolean told = item >= 0 && item <= 12;
            Check.due("a flow of " + item, x.flows(0, 0, 0, 1), told ? 1 : 0);
            Check.due("it becomes", x.villageOf(0, 0), told ? item : 5);
        }
        for (int n = -2; n <= 8; n++) {
            WaterThanks x = Check.villages(0, 0, 0, 0, 0, 0);
            Check.fill(x, 0, 1, 1, 2, 3, 4, 5, 6, 7, 8);
            Check.due(n + " flows", x.flows(0, 0, 0, n), n >= 0 && n <= 6 ? n : -1);
            for (int v = 0; v < 6; v++) {
                Check.due(n + " flows: of " + v, x.villageOf(v, 0), n <= 6 && v < n ? v + 1 : 0);
            }
        }
    }

    private static void flowsWithoutVillages() {
        for (int count = 1; count <= 6; count++) {
            for (int v = -1; v <= count; v++) {
                WaterThanks x = Check.villages(new int[6], count);
                Check.fill(x, 0, 1, 9, 8, 13, 6, 5, 4, 3, 2);
                boolean there = v >= 0 && v < count;
                int due = 0;
                for (int u = v; there && u < count; u++) {
                    due += u - v == 2 ? 0 : 1;
                }
                Check.due("six from " + v + " on, of " + count, x.flows(v, 0, 0, 6), there ? due : -1);
                for (int u = 0; u < count; u++) {
                    int flow = !there || u < v || u - v == 2 ? 0 : 9 - (u - v);
                    Check.due("of " + u, x.villageOf(u, 0), flow);
                }
            }
        }
    }

    private static void flowsUpToTheEnd() {
        for (int size = 0; size <= 7; size++) {
            for (int i = -1; i <= 7; i++) {
                WaterThanks x = Check.villages(0, 0, 0);
                int[] items = new int[size];
                java.util.Arrays.fill(items, 7);
                Check.fill(x, 0, 1, items);
                boolean all = i >= 0 && i + 3 <= size;
                Check.due("three from " + i + " on, of " + size, x.flows(0, 0, i, 3), all ? 3 : -12);
                for (int v = 0; v < 3; v++) {
                    boolean ahead = i >= 0 && i + v < size;
                    Check.due("what stood ahead became, " + v, x.villageOf(v, 0), ahead ? 7 : 0);
                }
            }
        }
        // no place is asked of none, but it is taken for shorts
        WaterThanks none = Check.villages(2);
        Check.due("none of a missing sheet", none.flows(0, 2, 0, 0), -11);
        for (int sort = 0; sort < 4; sort++) {
            none.sheet(2, sort, 3);
            Check.due("none of sort " + sort, none.flows(0, 2, 0, 0), sort == 1 ? 0 : -13);
            Check.due("none from behind, of sort " + sort, none.flows(0, 2, 3, 0), sort == 1 ? 0 : -13);
            Check.due("none from before, of sort " + sort, none.flows(0, 2, -1, 0), sort == 1 ? 0 : -13);
        }
        Check.due("none of a village that isn't", none.flows(2, 2, 0, 0), -1);
        Check.due("the flow stays", none.villageOf(0, 0), 2);
        // such as are left out are none that became, but what is outside behind them is outside
        WaterThanks x = Check.villages(1);
        Check.fill(x, 0, 1, 99, 4);
        Check.due("outside behind one left out", x.flows(0, 0, 0, 3), -12);
        Check.due("left out", x.villageOf(0, 0), 1);
        Check.due("one of two", x.flows(0, 0, 1, 1), 1);
        Check.due("the second", x.villageOf(0, 0), 4);
        for (int i : new int[] {MIN, MIN + 5, -6, -5, MAX - 5, MAX}) {
            Check.due("six from " + i + " on", x.flows(0, 0, i, 6), -12);
        }
        Check.due("still", x.villageOf(0, 0), 4);
    }

    private static void shelvesOnEitherSide() {
        for (int shelf = -1; shelf <= 4; shelf++) {
            for (int what = -1; what <= 9; what++) {
                for (int n = -1; n <= 4; n++) {
                    WaterThanks x = Check.villages(3, 4);
                    x.sheet(3, 0, 5);
                    boolean thing = what <= 6 ? n >= 0 && n < 2 : what != 7 || n >= 0 && n < 4;
                    boolean told = shelf >= 0 && shelf < 4 && what >= 0 && what < 9 && thing;
                    Check.due("shelf(" + shelf + ", " + what + ", " + n + ")", x.shelf(shelf, what, n), told ? 1 : -1);
                    int as = what == 7 ? 10 : what;
                    boolean holds = told && what != 8 && (what != 7 || n == 3);
                    if (shelf >= 0 && shelf < 4 && what >= 0 && what <= 7) {
                        Check.due("it holds", x.taken(shelf, as), !holds ? -11 : what == 7 ? 5 : n);
                    }
                    Check.due("the others hold nothing", x.taken(shelf == 2 ? 1 : 2, 6), -11);
                }
            }
        }
    }

    private static void nothingOnShelves() {
        WaterThanks x = Check.villages(3);
        for (int n : new int[] {MIN, -1, 0, 4, MAX}) {
            x.shelf(0, 6, 0);
            Check.due("nothing, n " + n, x.shelf(0, 8, n), 1);
            Check.due("it holds nothing", x.taken(0, 6), -11);
            Check.due("it acts not", x.act(0, 0, 5), 0);
            Check.due("nor is there a trace", x.many(5), 0);
        }
        x.shelf(0, 6, 0);
        Check.due("a missing row", x.shelf(0, 7, 2), 1);
        Check.due("is nothing", x.taken(0, 6), -11);
        Check.due("for a row, too", x.taken(0, 10), -11);
    }

    private static void takenForKinds() {
        WaterThanks x = Check.villages(3, 4);
        for (int kind = 0; kind <= 6; kind++) {
            x.shelf(0, kind, 1);
            for (int as = -1; as <= 14; as++) {
                boolean under = false;
                for (int above = kind; above >= 0; above = UNDER[above]) {
                    under |= above == as;
                }
                boolean bad = as < 0 || as > 13 || as > 6 && as < 10;
                int due = bad ? -1 : under ? 1 : -13;
                Check.due("kind " + kind + " for " + as, x.taken(0, as), due);
                Check.due("nothing for " + as, x.taken(1, as), bad ? -1 : -11);
            }
        }
    }

    private static void rowsOnShelves() {
        WaterThanks x = Check.villages(3);
        for (int sort = 0; sort < 4; sort++) {
            for (int n : new int[] {0, 1, 40}) {
                x.sheet(sort, sort, n);
                x.shelf(0, 7, sort);
                for (int as = 0; as <= 13; as++) {
                    int due = as > 6 && as < 10 ? -1 : as == 10 + sort ? n : -13;
                    Check.due("a row of " + n + " of " + sort + " for " + as, x.taken(0, as), due);
                }
                Check.due("a row acts not", x.act(0, 0, 9), 0);
            }
        }
    }

    private static void goneVillages() {
        WaterThanks x = Check.villages(3);
        x.keep();
        x.village(4);
        for (int kind = 0; kind <= 6; kind++) {
            x.village(5);
            x.shelf(0, kind, 1);
            x.shelf(1, kind, 0);
            Check.due("there is such a village", x.taken(0, kind), 1);
            x.again();
            for (int as = 0; as <= 13; as++) {
                Check.due("gone: kind " + kind + " for " + as, x.taken(0, as), as > 6 && as < 10 ? -1 : -11);
            }
            x.shelf(2, 6, 0);
            x.act(2, 0, 1);
            Check.due("gone: it acts not", x.act(0, 0, 5), 0);
            Check.due("gone: no trace then", x.trace(0), -3);
            Check.due("the other one is there", x.taken(1, kind), 0);
            Check.due("it acts", x.act(1, 3, 5) != 0 || x.many(5) > 0);
            Check.due("no more of the gone one", x.shelf(0, kind, 1), -1);
            x.village(6);
        }
    }

    private static void acts(WaterThanks x, int kind, int n, int act, int with, int due) {
        x.shelf(0, kind, n);
        Check.due("kind " + kind + " of " + n + ", act " + act + " with " + with, x.act(0, act, with), due);
    }

    private static void intsThatWrap() {
        // SHARES are 10 and 6 by KEEP, DOWN, UP; 8 by EQUAL; made in BEST as in KEEP; flows 1 and 3
        WaterThanks x = Check.villages(1, 3);
        Check.worths(x, 0, 10);
        Check.worths(x, 1, 2, 2, 2);
        for (int with : new int[] {MAX, MIN, MAX - 9, MAX - 10, MIN + 9, MAX / 2, MIN / 2, MAX / 3, -10, -11, 0, -1}) {
            acts(x, 0, 0, 0, with, with + 10);
            acts(x, 0, 1, 1, with, (with + 6) * 2);
            acts(x, 0, 1, 3, with, (with + 6) * 2 ^ 1);
            acts(x, 1, 1, 1, with, 0 - (with + 6) * 2);
            acts(x, 1, 1, 3, with, 0 - (with + 6) * 2 ^ 1);
            acts(x, 2, 0, 0, with, (with + 10) * 3);
            acts(x, 2, 1, 1, with, (with + 6) * 3 * 2);
            acts(x, 3, 1, 1, with, (with + 6) * 6 + 6);
            acts(x, 3, 1, 3, with, ((with + 6) * 6 + 6 ^ 1) + 2 / 5);
            acts(x, 4, 0, 2, with, (with - 1) / 10);
            acts(x, 5, 1, 0, with, (with + 8) * 3 ^ 8);
            acts(x, 5, 1, 1, with, ((with + 8) * 3 ^ 8) * 2 + 8);
            acts(x, 5, 0, 2, with, (with + 2) / 8);
            acts(x, 6, 1, 0, with, with - 3);
            acts(x, 6, 1, 1, with, with - 3);
            acts(x, 6, 0, 1, with, 0);
            acts(x, 6, 1, 2, with, with ^ 3);
            acts(x, 6, 1, 3, with, with - 3 + (1 ^ 3));
            x = Check.villages(1, 3);
            Check.worths(x, 0, 10);
            Check.worths(x, 1, 2, 2, 2);
        }
    }

    private static void quotientsAreCut() {
        WaterThanks x = Check.villages(1, 1, 0, 1);
        Check.worths(x, 0, 7);
        Check.worths(x, 3, 1);
        // parted by 7 - 0, 0 - 1, 0 - 2, 1 - 3
        int[][] due = {{0, 7, 1}, {0, 6, 0}, {0, 13, 1}, {0, 14, 2}, {0, -6, 0}, {0, -7, -1}, {0, -13, -1}, {0, -14, -2},
            {1, 5, -5}, {1, -5, 5}, {1, MAX, -MAX}, {1, MIN, MIN}, {2, 5, -2}, {2, -5, 2}, {2, 1, 0}, {2, -1, 0},
            {2, MIN, 1 << 30}, {3, 3, -1}, {3, -3, 1}, {3, MAX, -(MAX / 2)}};
        for (int[] one : due) {
            acts(x, 0, one[0], 2, one[1], one[2]);
        }
        acts(x, 4, 0, 2, MIN, MAX / 7);
        acts(x, 4, 1, 2, MIN, -MAX);
        acts(x, 4, 0, 2, 1, 0);
        // by EQUAL all of 8 have 2: parted by 2, 1, 0, -1
        acts(x, 5, 0, 2, MAX, (MIN + 1) / 2);
        acts(x, 5, 0, 2, 1, 1);
        acts(x, 5, 1, 2, MAX - 1, MIN);
        acts(x, 5, 2, 2, 5, -15);
        acts(x, 5, 3, 2, MAX - 1, MIN);
    }

    private static void partedBy0() {
        WaterThanks x = Check.villages(0, 2, 2);
        Check.worths(x, 1, 1);
        Check.worths(x, 2, 1, 1);
        for (int v = 0; v < 3; v++) {
            for (int with : new int[] {0, 1, -2, MIN, MAX}) {
                acts(x, 0, v, 2, with, -15);
                Check.due("the body began", x.trace(0), 12);
                Check.due("no other", x.many(5), 1);
                acts(x, 4, v, 2, with, -15);
                Check.due("the bodies began", x.trace(0) * 100 + x.trace(1), 5012);
            }
            acts(x, 1, v, 2, 7, -15);
            acts(x, 2, v, 2, 7, -15);
            acts(x, 3, v, 2, 7, -15);
            acts(x, 0, v, 0, 7, 7 + v);
            acts(x, 0, v, 1, 7, 14 + 2 * v);
        }
        // tells of DOWN and EQUAL pays last: that is all that it answers then
        acts(x, 3, 1, 3, 5, -15);
        Check.due("seven bodies began", x.many(5), 7);
        Check.due("pays began last", x.trace(6), 12);
        acts(x, 5, 1, 3, 5, -15);
        Check.due("nine bodies began", x.many(5), 9);
        acts(x, 4, 1, 3, 5, (5 + 1) * 6 ^ 1);
        acts(x, 6, 0, 2, 7, 7);
        // an answer of -15 that is none of parting
        acts(x, 6, 1, 0, -13, -15);
    }

    private static void actsOnEitherSide() {
        WaterThanks x = Check.villages(7, 5);
        x.shelf(3, 6, 1);
        x.sheet(0, 1, 2);
        x.shelf(1, 7, 0);
        for (int shelf = -2; shelf <= 5; shelf++) {
            for (int act = -2; act <= 5; act++) {
                x.act(3, 1, 4);
                Check.due("a trace ahead", x.many(5), 2);
                boolean told = shelf == 3 && act >= 0 && act <= 3;
                int due = told ? new int[] {11, 11, 16 ^ 5, 11 + 4}[act] : 0;
                Check.due("act(" + shelf + ", " + act + ", 16)", x.act(shelf, act, 16), due);
                Check.due("its bodies", x.many(5), told ? new int[] {1, 2, 1, 4}[act] : 0);
                Check.due("the first of them", x.trace(0), told ? 70 + act : -3);
            }
        }
        for (int wrong : new int[] {MIN, MAX}) {
            Check.due("no such shelf", x.act(wrong, 0, 1), 0);
            Check.due("no such act", x.act(3, wrong, 1), 0);
        }
    }

    private static void traceOnEitherSide() {
        WaterThanks x = Check.threeVillages();
        x.shelf(0, 5, 1);
        x.act(0, 3, 5);
        // EQUAL tells: the most bodies that any act has
        int[] due = {41, 13, 40, 11, 60, 30, 10, 61, 12};
        Check.due("how many began", x.many(5), 9);
        for (int i = -2; i <= 32; i++) {
            Check.due("trace(" + i + ")", x.trace(i), i >= 0 && i < 9 ? due[i] : -3);
        }
        x.act(0, 2, 5);
        for (int i = -1; i <= 9; i++) {
            Check.due("of the latest act, " + i, x.trace(i), i == 0 ? 61 : i == 1 ? 12 : -3);
        }
        x.act(0, 4, 5);
        Check.due("of none", x.trace(0), -3);
    }

    private static void manyOnEitherSide() {
        WaterThanks x = new WaterThanks();
        for (int what = -3; what <= 10; what++) {
            int due = what < 0 || what > 7 ? -1 : what == 7 ? -1 : 0;
            Check.due("new: many(" + what + ")", x.many(what), due);
        }
        for (int i = 0; i < 7; i++) {
            x.village(1);
            x.year(1);
        }
        x.dam(5, 4);
        Check.read(x, "let 0 1;".repeat(8));
        Check.feed(x, "?".repeat(200));
        x.feed(0L, 8);
        x.prove();
        x.shelf(0, 5, 1);
        x.act(0, 3, 9);
        int[] due = {6, 6, 8, 6, 200, 9, 4, 5};
        for (int what = -3; what <= 10; what++) {
            Check.due("full: many(" + what + ")", x.many(what), what < 0 || what > 7 ? -1 : due[what]);
        }
        x.dam(-1, 0);
        Check.due("no dam any more", x.many(7), -1);
        Check.due("that holds none", x.many(6), 0);
    }

    private static void againBringsBack() {
        WaterThanks x = new WaterThanks();
        Check.due("nothing is kept", x.again(), -3);
        Check.due("nothing is kept, again", x.again(), -3);
        Check.due("nothing at all is kept then", x.keep(), 1);
        for (int i = 0; i < 6; i++) {
            x.village(12);
            x.year(20);
        }
        x.dam(5, 4);
        Check.read(x, "let 0 1;".repeat(8));
        Check.due("as new again", x.again(), 1);
        int[] due = {0, 0, 0, 0, 0, 0, 0, -1};
        for (int what = 0; what < 8; what++) {
            Check.due("as new, many " + what, x.many(what), due[what]);
        }
        Check.due("as new: no village", x.villageOf(0, 0), -1);
        Check.due("as new: no year", x.kept(0), -1000001);
        Check.due("as new: best", x.best(10), 0);
        for (int i = 0; i < 6; i++) {
            Check.due("six places again", x.village(3), i);
            Check.due("six years again", x.year(3), i);
            Check.due("none of the worths before", x.worth(i, 12), 0);
        }
        x.keep();
        Check.due("full again", x.village(0), -2);
        x.again();
        Check.due("full as it was kept", x.village(0), -2);
        Check.due("years as they were kept", x.year(0), -2);
        Check.due("as often as is asked", x.again(), 1);
    }

    private static void againLeavesTheRest() {
        WaterThanks x = Check.villages(4);
        x.keep();
        Check.worths(x, 0, 9, 9, 9, 9);
        x.prove();
        Check.feed(x, "let 0 2;");
        Check.fill(x, 1, 3, 5, 6);
        x.shelf(2, 7, 1);
        x.shelf(3, 0, 0);
        x.act(3, 1, 2);
        x.again();
        Check.due("rows stay", x.row(0, 1), 4);
        Check.due("that make no less than best", x.judge(), 0);
        Check.due("the tape stays", x.many(4), 8);
        Check.due("sheets stay", x.item(1, 3, 1), 6);
        Check.due("shelves stay", x.taken(2, 13), 2);
        Check.due("sharings are as they are now", x.act(3, 0, 2), 2);
        Check.due("the tape's text", x.read(), 1);
        x.again();
        Check.due("the treaty that was kept had no line", x.many(2), 0);
        x.shelf(3, 0, 0);
        x.act(3, 1, 2);
        x.again();
        Check.due("the trace stays", x.trace(0) * 100 + x.trace(1), 1110);
    }

    /** Two villages and a year, as they were before there were six of each. */
    private static WaterThanks two() {
        WaterThanks x = Check.villages(5, 3);
        Check.worths(x, 0, 9, 4, 2);
        x.set(0, 3, 8);
        x.set(1, 3, 5);
        x.set(1, 4, 6);
        x.set(1, 2, 1);
        x.year(10);
        x.dam(0, 2);
        Check.read(x, "let 0 1;");
        return x;
    }

    private static void againLeavesNothingBehind() {
        WaterThanks x = two();
        x.keep();
        for (int v = 2; v < 6; v++) {
            x.village(12);
            x.set(v, 1, 0);
            x.set(v, 2, 9);
            x.set(v, 3, 20);
            x.set(v, 4, 0);
            x.set(v, 5, 9);
            x.year(20);
        }
        Check.fill(x, 3, 0, 99, 98, 97, 96, 95, 94, 93, 92, 91, 90, 89, 88);
        for (int v = 0; v < 6; v++) {
            x.worths(v, 3);
        }
        x.sheet(3, -1, 0);
        x.yearOf(0, 20);
        x.dam(5, 4);
        Check.read(x, "let 0 9; let 1 8 if wet > 0 and comes > 0;let 1 7 if flow > 0;");
        Check.due("many coins", x.cleaning(-1) + x.best(20) + x.kept(-1) + x.lost() + x.plain(0) + x.price(0) > 0);
        for (int sharing = 0; sharing < 4; sharing++) {
            Check.due("and many shares", x.share(sharing, 5, 0) > 0);
        }
        x.again();
        java.util.List<String> due = Look.at(two());
        java.util.List<String> answers = Look.at(x);
        for (int i = 0; i < due.size() && !due.get(i).startsWith("again"); i++) {
            Check.due("as before the six: " + answers.get(i) + ", due " + due.get(i), answers.get(i).equals(due.get(i)));
        }
    }
}
