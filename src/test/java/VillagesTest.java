/** Promises 1 to 9. */
final class VillagesTest {
    private static final int LOW_BAD = -1000001;
    private static final int MIN = Integer.MIN_VALUE;
    private static final int MAX = Integer.MAX_VALUE;

    public static void main(String[] args) {
        constants();
        promise1();
        promise2();
        promise3();
        promise4();
        promise5();
        promise6();
        promise7();
        promise7Harm();
        promise8();
        promise9();
        Check.end();
    }

    private static void constants() {
        Check.due("BAD", WaterThanks.BAD, -1);
        Check.due("FULL", WaterThanks.FULL, -2);
        Check.due("NONE", WaterThanks.NONE, -3);
        Check.due("STATE", WaterThanks.STATE, -4);
        Check.due("LOW", WaterThanks.LOW, -1000000);
    }

    private static void promise1() {
        WaterThanks x = new WaterThanks();
        int[] due = {0, 0, 0, 0, 0, 0, 0, -1, -1};
        for (int what = 0; what < due.length; what++) {
            Check.due("1: new, many " + what, x.many(what), due[what]);
        }
        Check.due("1: new, villageOf", x.villageOf(0, 0), -1);
        Check.due("1: new, kept", x.kept(-1), 0);
        Check.due("1: new, kept of year 0", x.kept(0), LOW_BAD);
        Check.due("1: new, cleaning", x.cleaning(-1), 0);
        Check.due("1: new, lost", x.lost(), 0);
        Check.due("1: new, plain", x.plain(0), 0);
        Check.due("1: new, least m", x.plain(1), 0);
        Check.due("1: new, breaks", x.breaks(0), -9);
        Check.due("1: new, again", x.again(), -3);
        Check.due("1: new, trace", x.trace(0), -3);
        Check.due("1: new, row", x.row(0, 0), -9);
        Check.due("1: new, judge", x.judge(), 0);
        Check.due("1: new, act", x.act(0, 0, 1), 0);
        Check.due("1: new, broken", x.broken(3), 0);
        for (int s = 0; s < 4; s++) {
            Check.due("1: new, item", x.item(s, 0, 0), -11);
            Check.due("1: new, taken", x.taken(s, 0), -11);
        }
    }

    private static void promise2() {
        WaterThanks x = new WaterThanks();
        Check.due("2: flow -1", x.village(-1), -1);
        Check.due("2: flow 13", x.village(13), -1);
        Check.due("2: flow least int", x.village(MIN), -1);
        Check.due("2: no village came", x.many(0), 0);
        for (int v = 0; v < 6; v++) {
            Check.due("2: number", x.village(v * 12 / 5), v);
            Check.due("2: flow", x.villageOf(v, 0), v * 12 / 5);
        }
        Check.due("2: full", x.village(0), -2);
        Check.due("2: bad ahead of full", x.village(13), -1);
        Check.due("2: still six", x.many(0), 6);
    }

    private static void promise3() {
        WaterThanks x = Check.villages(7, 3);
        int[] due = {7, 99, 0, 0, 99, 1};
        for (int what = 0; what < 6; what++) {
            Check.due("3: at first, " + what, x.villageOf(0, what), due[what]);
        }
        Check.due("3: of village 1", x.villageOf(1, 0), 3);
        Check.due("3: what 6", x.villageOf(0, 6), -1);
        Check.due("3: what -1", x.villageOf(0, -1), -1);
        Check.due("3: village 2", x.villageOf(2, 0), -1);
        Check.due("3: village -1", x.villageOf(-1, 0), -1);
        Check.due("3: extremes", x.villageOf(MAX, MIN), -1);
    }

    private static void promise4() {
        WaterThanks x = Check.villages(7, 3);
        int[] least = {0, 0, 0, 0, 0, 1};
        int[] most = {12, 99, 9, 20, 99, 9};
        int[] first = {3, 99, 0, 0, 99, 1};
        for (int what = 0; what < 6; what++) {
            Check.due("4: too low " + what, x.set(1, what, least[what] - 1), -1);
            Check.due("4: too high " + what, x.set(1, what, most[what] + 1), -1);
            Check.due("4: refused, unchanged " + what, x.villageOf(1, what), first[what]);
            Check.due("4: least " + what, x.set(1, what, least[what]), first[what]);
            Check.due("4: most " + what, x.set(1, what, most[what]), least[what]);
            Check.due("4: is most " + what, x.villageOf(1, what), most[what]);
        }
        Check.due("4: other village", x.villageOf(0, 5), 1);
        Check.due("4: what 6", x.set(0, 6, 1), -1);
        Check.due("4: what -1", x.set(0, -1, 1), -1);
        Check.due("4: village 2", x.set(2, 0, 1), -1);
        Check.due("4: village -1", x.set(-1, 0, 1), -1);
        Check.due("4: extremes", x.set(MIN, MAX, MIN), -1);
    }

    private static void promise5() {
        WaterThanks x = Check.villages(7, 3);
        Check.due("5: village 2", x.worths(2, 0), -1);
        Check.due("5: sheet 4", x.worths(0, 4), -1);
        Check.due("5: sheet -1", x.worths(0, -1), -1);
        Check.due("5: village ahead of missing sheet", x.worths(-1, 0), -1);
        Check.due("5: missing", x.worths(0, 0), -11);
        x.sheet(0, 2, 12);
        Check.due("5: ints", x.worths(0, 0), -13);
        x.sheet(0, 1, 3);
        Check.due("5: sort ahead of state", x.worths(0, 0), -13);
        Check.fill(x, 0, 0, 99, 99, 50, 7, 7, 7, 7, 7, 7, 7, 7, 0);
        Check.due("5: taken", x.worths(0, 0), 1);
        Check.due("5: first", x.worth(0, 1), 99);
        Check.due("5: all", x.worth(0, 12), 304);
        Check.due("5: the other has none", x.worth(1, 12), 0);
        Check.fill(x, 0, 0, 99, 99, 50, 7, 7, 7, 7, 7, 7, 7, 7, 8);
        Check.due("5: one above the one ahead", x.worths(0, 0), -4);
        Check.fill(x, 0, 0, 100, 9, 9, 7, 7, 7, 7, 7, 7, 7, 7, 7);
        Check.due("5: 100", x.worths(0, 0), -4);
        Check.fill(x, 0, 0, 99, 9, 9, 7, 7, 7, 7, 7, 7, 7, 7, -1);
        Check.due("5: -1", x.worths(0, 0), -4);
        x.sheet(0, 0, 11);
        Check.due("5: 11 numbers", x.worths(0, 0), -4);
        x.sheet(0, 0, 13);
        Check.due("5: 13 numbers", x.worths(0, 0), -4);
        x.sheet(0, 0, 0);
        Check.due("5: no numbers", x.worths(0, 0), -4);
        Check.due("5: refused, unchanged", x.worth(0, 12), 304);
        x.sheet(0, 0, 12);
        Check.due("5: zeros", x.worths(0, 0), 1);
        Check.due("5: all 0", x.worth(0, 12), 0);
    }

    private static void promise6() {
        WaterThanks x = Check.villages(7, 3);
        Check.worths(x, 1, 12, 11, 10, 9, 8, 7, 6, 5, 4, 3, 2, 1);
        int sum = 0;
        for (int n = 0; n <= 12; n++) {
            Check.due("6: first " + n, x.worth(1, n), sum);
            sum += 12 - n;
        }
        Check.due("6: 13", x.worth(1, 13), -1);
        Check.due("6: -1", x.worth(1, -1), -1);
        Check.due("6: village 2", x.worth(2, 1), -1);
        Check.due("6: extremes", x.worth(MIN, MAX), -1);
    }

    private static void promise7() {
        Check.due("7: no village", new WaterThanks().best(10), 0);
        WaterThanks x = Check.threeVillages();
        Check.due("7: wet 10", x.best(10), 135);
        // 3 and 1 come in: 30 + 20 + 20 below, or 18 kept at 1
        Check.due("7: wet 5", x.best(5), 88);
        Check.due("7: wet 20", x.best(20), 171);
        Check.due("7: wet 0", x.best(0), 0);
        // 6 by 10 and 2 by 10 are cut to 0
        Check.due("7: wet 1", x.best(1), 0);
        // 6 * 2 by 10 is 1
        Check.due("7: wet 2", x.best(2), 30);
        Check.due("7: wet 21", x.best(21), LOW_BAD);
        Check.due("7: wet -1", x.best(-1), LOW_BAD);
        Check.due("7: wet least int", x.best(MIN), LOW_BAD);
        WaterThanks y = Check.villages(12, 12, 12, 12, 12, 12);
        for (int v = 0; v < 6; v++) {
            Check.worths(y, v, 99, 99, 99, 99, 99, 99, 99, 99, 99, 99, 99, 99);
        }
        Check.due("7: all full", y.best(20), 6 * 12 * 99);
    }

    private static void promise7Harm() {
        WaterThanks x = Check.villages(12, 12);
        x.set(0, 1, 3);
        x.set(0, 2, 9);
        x.set(1, 1, 0);
        x.set(1, 2, 2);
        // worths of 0 are no worth, but uses keep harm away
        Check.due("7: no harm", x.best(10), 0);
        Check.due("7: no harm, use", x.use(0, 0), 12);
        // 24 come: 12 used, 12 pass, 9 above the bank; 36 come below, 24 pass
        Check.due("7: harm of more than 12", x.best(20), -81 - 48);
        x.set(1, 1, 99);
        Check.due("7: a bank that holds", x.best(20), -81);
        Check.due("7: harm, use", x.use(0, 0), 9);
    }

    private static void promise8() {
        WaterThanks x = Check.threeVillages();
        int[][] due = {{3, 3, 45}, {2, 3, 30}, {3, 0, 60}};
        for (int v = 0; v < 3; v++) {
            for (int what = 0; what < 3; what++) {
                Check.due("8: use(" + v + ", " + what + ")", x.use(v, what), due[v][what]);
            }
        }
        Check.due("8: what 3", x.use(0, 3), LOW_BAD);
        Check.due("8: what -1", x.use(0, -1), LOW_BAD);
        Check.due("8: village 3", x.use(3, 0), LOW_BAD);
        Check.due("8: village -1", x.use(-1, 0), LOW_BAD);
        // of several best ones the lesser use first comes first
        WaterThanks y = Check.villages(2, 0, 0);
        Check.worths(y, 0, 5, 5);
        Check.worths(y, 1, 5, 5);
        Check.worths(y, 2, 5);
        Check.due("8: lesser first, 0", y.use(0, 0), 0);
        Check.due("8: lesser first, 1", y.use(1, 0), 1);
        Check.due("8: lesser first, 2", y.use(2, 0), 1);
        WaterThanks z = Check.villages(4);
        Check.due("8: worth nothing, not used", z.use(0, 0), 0);
        z.set(0, 1, 1);
        z.set(0, 2, 5);
        Check.due("8: used against harm", z.use(0, 0), 3);
        z.set(0, 0, 12);
        z.set(0, 1, 0);
        Check.due("8: all 12 used", z.use(0, 0), 12);
        Check.due("8: none passes", z.use(0, 1), 0);
    }

    private static void promise9() {
        WaterThanks x = Check.threeVillages();
        Check.due("9: price 0", x.price(0), 8);
        Check.due("9: price 1", x.price(1), 8);
        Check.due("9: price 2", x.price(2), 8);
        Check.due("9: price 3", x.price(3), LOW_BAD);
        Check.due("9: price -1", x.price(-1), LOW_BAD);
        Check.due("9: nothing changed", x.best(10), 135);
        Check.due("9: flow unchanged", x.villageOf(0, 0), 6);
        WaterThanks y = Check.villages(12, 12);
        y.set(1, 1, 0);
        y.set(1, 2, 7);
        y.set(0, 1, 0);
        y.set(0, 2, 1);
        Check.due("9: no harm as yet", y.best(10), 0);
        Check.due("9: below 0", y.price(1), -7);
        Check.due("9: passed and harmful twice", y.price(0), -8);
        y.set(0, 0, 0);
        Check.due("9: used below", y.price(0), 0);
        WaterThanks z = Check.villages(0, 5);
        Check.worths(z, 0, 9);
        Check.due("9: of no use below", z.price(1), 0);
        Check.due("9: of use above", z.price(0), 9);
    }
}
