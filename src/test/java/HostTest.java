/** Promises 30 to 38. */
final class HostTest {
    private static final int MIN = Integer.MIN_VALUE;
    private static final int MAX = Integer.MAX_VALUE;

    public static void main(String[] args) {
        promise30();
        promise31();
        promise32();
        promise33();
        promise33Edges();
        promise34();
        promise35();
        promise35Gone();
        promise36Bodies();
        promise36Now();
        promise36Parted();
        promise36Nothing();
        promise37();
        promise38();
        Check.end();
    }

    private static void promise30() {
        WaterThanks x = new WaterThanks();
        for (int sort = 0; sort < 4; sort++) {
            Check.due("30: a row of 40", x.sheet(sort, sort, 40), 1);
            Check.due("30: its last is 0", x.item(sort, sort, 39), 0);
            x.put(sort, 39, 9);
            Check.due("30: a row of 40 again", x.sheet(sort, sort, 40), 1);
            Check.due("30: 0 again", x.item(sort, sort, 39), 0);
        }
        Check.due("30: sheet 4", x.sheet(4, 0, 1), -1);
        Check.due("30: sheet -1", x.sheet(-1, 0, 1), -1);
        Check.due("30: sort 4", x.sheet(0, 4, 1), -1);
        Check.due("30: sort -2", x.sheet(0, -2, 1), -1);
        Check.due("30: n 41", x.sheet(0, 0, 41), -1);
        Check.due("30: n -1", x.sheet(0, 0, -1), -14);
        Check.due("30: n least int", x.sheet(0, 0, MIN), -14);
        Check.due("30: sort ahead of n", x.sheet(0, 4, -1), -1);
        Check.due("30: sheet ahead of n", x.sheet(4, 0, -1), -1);
        Check.due("30: refused, as it was", x.item(0, 0, 39), 0);
        Check.due("30: n 0", x.sheet(0, 0, 0), 1);
        Check.due("30: of no items", x.item(0, 0, 0), -12);
        Check.due("30: missing, n -1", x.sheet(0, -1, -1), 1);
        Check.due("30: missing", x.item(0, 0, 0), -11);
        Check.due("30: missing, n 41", x.sheet(1, -1, 41), 1);
        Check.due("30: missing, too", x.put(1, 0, 0), -11);
        Check.due("30: shorter", x.sheet(2, 1, 3), 1);
        Check.due("30: shorter, place 3", x.item(2, 1, 3), -12);
    }

    private static void promise31() {
        WaterThanks x = new WaterThanks();
        int[] told = {127, 128, -129, 255, 256, 32768, -32769, MAX, MIN};
        int[] bytes = {127, -128, 127, -1, 0, 0, -1 - 0, -1, 0};
        int[] shorts = {127, 128, -129, 255, 256, -32768, 32767, -1, 0};
        bytes[6] = (byte) -32769;
        for (int sort = 0; sort < 4; sort++) {
            x.sheet(sort, sort, 9);
            int[] due = sort == 0 ? bytes : sort == 1 ? shorts : told;
            for (int i = 0; i < 9; i++) {
                Check.due("31: put", x.put(sort, i, told[i]), 1);
                Check.due("31: sort " + sort + ", " + told[i], x.item(sort, sort, i), due[i]);
            }
            Check.due("31: place 9", x.put(sort, 9, 1), -12);
            Check.due("31: place -1", x.put(sort, -1, 1), -12);
            Check.due("31: place of extremes", x.put(sort, MIN, 1), -12);
        }
        Check.due("31: sheet 4", x.put(4, 0, 1), -1);
        Check.due("31: sheet -1", x.put(-1, 0, 1), -1);
        x.sheet(0, -1, 0);
        Check.due("31: missing ahead of place", x.put(0, 99, 1), -11);
    }

    private static void promise32() {
        WaterThanks x = new WaterThanks();
        for (int sort = 0; sort < 4; sort++) {
            Check.due("32: missing", x.item(0, sort, 0), -11);
        }
        x.sheet(0, 1, 2);
        x.put(0, 1, -13);
        Check.due("32: as low as a refusal", x.item(0, 1, 1), -13);
        Check.due("32: bytes", x.item(0, 0, 1), -13);
        x.put(0, 1, 77);
        Check.due("32: shorts", x.item(0, 1, 1), 77);
        Check.due("32: ints", x.item(0, 2, 1), -13);
        Check.due("32: longs", x.item(0, 3, 1), -13);
        Check.due("32: sort ahead of place", x.item(0, 3, 2), -13);
        Check.due("32: place 2", x.item(0, 1, 2), -12);
        Check.due("32: place -1", x.item(0, 1, -1), -12);
        Check.due("32: sort 4", x.item(0, 4, 0), -1);
        Check.due("32: sort -1", x.item(0, -1, 0), -1);
        Check.due("32: sort -1 of a missing one", x.item(1, -1, 0), -1);
        Check.due("32: sheet 4", x.item(4, 0, 0), -1);
        Check.due("32: sheet -1", x.item(-1, 0, 0), -1);
        Check.due("32: extremes", x.item(MAX, MIN, MAX), -1);
    }

    private static void promise33() {
        WaterThanks x = Check.villages(1, 1, 1);
        Check.fill(x, 0, 1, 7, 13, -1, 12, 0, 5);
        Check.due("33: from 0 on", x.flows(0, 0, 0, 3), 1);
        Check.due("33: became", x.villageOf(0, 0), 7);
        Check.due("33: 13 left out", x.villageOf(1, 0), 1);
        Check.due("33: -1 left out", x.villageOf(2, 0), 1);
        Check.due("33: from 1 on, at 3", x.flows(1, 0, 3, 2), 2);
        Check.due("33: 12", x.villageOf(1, 0), 12);
        Check.due("33: 0", x.villageOf(2, 0), 0);
        Check.due("33: the one above stays", x.villageOf(0, 0), 7);
        Check.due("33: without a village", x.flows(2, 0, 3, 3), 1);
        Check.due("33: became, too", x.villageOf(2, 0), 12);
        Check.due("33: none", x.flows(0, 0, 0, 0), 0);
        Check.due("33: all six", x.flows(0, 0, 0, 6), 1);
    }

    private static void promise33Edges() {
        WaterThanks x = Check.villages(1, 1, 1);
        Check.fill(x, 0, 1, 3, 4);
        Check.due("33: outside", x.flows(0, 0, 0, 3), -12);
        Check.due("33: what stood ahead, 0", x.villageOf(0, 0), 3);
        Check.due("33: what stood ahead, 1", x.villageOf(1, 0), 4);
        Check.due("33: not the one outside", x.villageOf(2, 0), 1);
        Check.due("33: outside without a village", x.flows(2, 0, 0, 3), -12);
        Check.due("33: ahead of it", x.villageOf(2, 0), 3);
        Check.due("33: place -1", x.flows(0, 0, -1, 2), -12);
        Check.due("33: place -1, none became", x.villageOf(0, 0), 3);
        Check.due("33: greatest place", x.flows(0, 0, MAX, 6), -12);
        Check.due("33: least place", x.flows(0, 0, MIN, 6), -12);
        Check.due("33: none asked outside", x.flows(0, 0, 9, 0), 0);
        Check.due("33: village 3", x.flows(3, 0, 0, 1), -1);
        Check.due("33: village -1", x.flows(-1, 0, 0, 1), -1);
        Check.due("33: sheet 4", x.flows(0, 4, 0, 1), -1);
        Check.due("33: sheet -1", x.flows(0, -1, 0, 1), -1);
        Check.due("33: n 7", x.flows(0, 0, 0, 7), -1);
        Check.due("33: n -1", x.flows(0, 0, 0, -1), -1);
        Check.due("33: n ahead of missing", x.flows(0, 1, 0, 7), -1);
        Check.due("33: missing", x.flows(0, 1, 0, 1), -11);
        x.sheet(1, 2, 1);
        Check.due("33: ints", x.flows(0, 1, 5, 1), -13);
        x.sheet(1, 0, 1);
        Check.due("33: bytes", x.flows(0, 1, 0, 1), -13);
    }

    private static void promise34() {
        WaterThanks x = Check.villages(5, 3);
        for (int what = 0; what < 7; what++) {
            Check.due("34: kind " + what, x.shelf(1, what, 1), 1);
            Check.due("34: holds it", x.taken(1, what), 1);
            Check.due("34: village 2", x.shelf(1, what, 2), -1);
            Check.due("34: village -1", x.shelf(1, what, -1), -1);
        }
        Check.due("34: refused, holds what it held", x.taken(1, 6), 1);
        Check.due("34: shelf 4", x.shelf(4, 8, 0), -1);
        Check.due("34: shelf -1", x.shelf(-1, 8, 0), -1);
        Check.due("34: what 9", x.shelf(0, 9, 0), -1);
        Check.due("34: what -1", x.shelf(0, -1, 0), -1);
        Check.due("34: sheet 4", x.shelf(0, 7, 4), -1);
        Check.due("34: sheet -1", x.shelf(0, 7, -1), -1);
        Check.due("34: extremes", x.shelf(MIN, MAX, MIN), -1);
        Check.due("34: a missing sheet", x.shelf(1, 7, 3), 1);
        Check.due("34: is nothing", x.taken(1, 6), -11);
        x.sheet(3, 1, 5);
        Check.due("34: it was missing then", x.taken(1, 11), -11);
        Check.due("34: a sheet", x.shelf(1, 7, 3), 1);
        Check.due("34: its row", x.taken(1, 11), 5);
        x.sheet(3, 2, 6);
        Check.due("34: the row that it was", x.taken(1, 11), 5);
        Check.due("34: nothing", x.shelf(1, 8, MAX), 1);
        Check.due("34: holds nothing", x.taken(1, 11), -11);
        Check.due("34: last shelf", x.shelf(3, 0, 0), 1);
    }

    private static void promise35() {
        WaterThanks x = Check.villages(5, 3, 2);
        int[][] fits = {
            {1, 0, 0, 0, 0, 0, 0},
            {1, 1, 0, 0, 0, 0, 0},
            {1, 0, 1, 0, 0, 0, 0},
            {1, 0, 1, 1, 0, 0, 0},
            {1, 0, 1, 0, 1, 0, 0},
            {1, 0, 1, 1, 0, 1, 0},
            {0, 0, 0, 0, 0, 0, 1},
        };
        for (int kind = 0; kind < 7; kind++) {
            x.shelf(kind % 4, kind, 2);
            for (int as = 0; as < 7; as++) {
                int due = fits[kind][as] == 1 ? 2 : -13;
                Check.due("35: kind " + kind + " as " + as, x.taken(kind % 4, as), due);
            }
            for (int as = 10; as < 14; as++) {
                Check.due("35: kind " + kind + " as " + as, x.taken(kind % 4, as), -13);
            }
        }
        for (int sort = 0; sort < 4; sort++) {
            x.sheet(0, sort, 10 * sort);
            x.shelf(0, 7, 0);
            for (int as = 0; as < 14; as++) {
                int due = as == 10 + sort ? 10 * sort : as > 6 && as < 10 ? -1 : -13;
                Check.due("35: row of " + sort + " as " + as, x.taken(0, as), due);
            }
        }
        int[] bad = {-1, 7, 8, 9, 14, MIN, MAX};
        for (int as : bad) {
            Check.due("35: as " + as, x.taken(0, as), -1);
        }
        Check.due("35: shelf 4", x.taken(4, 0), -1);
        Check.due("35: shelf -1", x.taken(-1, 0), -1);
        x.shelf(0, 8, 0);
        Check.due("35: nothing", x.taken(0, 13), -11);
        Check.due("35: bad ahead of nothing", x.taken(0, 14), -1);
    }

    private static void promise35Gone() {
        WaterThanks x = Check.villages(5);
        x.keep();
        x.village(7);
        x.shelf(0, 5, 1);
        x.shelf(1, 6, 1);
        x.shelf(2, 6, 0);
        x.sheet(0, 0, 4);
        x.shelf(3, 7, 0);
        Check.due("35: there", x.taken(1, 6), 1);
        x.again();
        Check.due("35: a sharing of none", x.taken(0, 5), -11);
        Check.due("35: a village that is gone", x.taken(1, 6), -11);
        Check.due("35: nothing, whatever it is taken for", x.taken(1, 0), -11);
        Check.due("35: one that is there", x.taken(2, 6), 0);
        Check.due("35: a row stays", x.taken(3, 10), 4);
        Check.due("36: acts no more", x.act(1, 0, 3), 0);
        Check.due("37: no trace of it", x.many(5), 0);
    }

    private static void acts(WaterThanks x, int kind, int n, int act, int value, int due, int... bodies) {
        x.shelf(0, kind, n);
        String call = "36: kind " + kind + " of " + n + ", act(0, " + act + ", " + value + ")";
        Check.due(call, x.act(0, act, value), due);
        Check.due(call + ", bodies", x.many(5), bodies.length);
        for (int i = 0; i < bodies.length; i++) {
            Check.due(call + ", body " + i, x.trace(i), bodies[i]);
        }
        Check.due(call + ", behind", x.trace(bodies.length), -3);
    }

    private static void promise36Bodies() {
        // what they make in best: 45, 30, 60; shares: keep 60 30 0, down 60 31 44, up 85 50 0, equal 45
        WaterThanks x = Check.threeVillages();
        acts(x, 0, 1, 0, 5, 35, 10);
        acts(x, 0, 1, 1, 5, 70, 11, 10);
        acts(x, 0, 1, 2, 100, 3, 12);
        acts(x, 0, 1, 2, -100, -3, 12);
        acts(x, 0, 2, 3, 5, 130 ^ 2, 13, 11, 10);
        acts(x, 1, 1, 0, 5, 35, 10);
        acts(x, 1, 1, 1, 5, -70, 20, 11, 10);
        acts(x, 1, 2, 2, 7, -3, 12);
        acts(x, 1, 2, 3, 5, -10 ^ 2, 13, 20, 11, 10);
        acts(x, 2, 1, 0, 5, 105, 30, 10);
        acts(x, 2, 1, 1, 5, 210, 11, 30, 10);
        acts(x, 2, 1, 2, 90, 3, 12);
        acts(x, 2, 1, 3, 5, 210 ^ 1, 13, 11, 30, 10);
        acts(x, 3, 1, 0, 5, 108, 30, 10);
        acts(x, 3, 1, 1, 5, 247, 40, 11, 30, 10);
        acts(x, 3, 1, 2, 95, 3, 12);
        acts(x, 3, 2, 3, 5, ((5 + 44) * 6 + 44 ^ 2) + 3 / 42, 41, 13, 40, 11, 30, 10, 12);
        acts(x, 4, 1, 0, 5, 165, 30, 10);
        acts(x, 4, 1, 1, 5, 330, 11, 30, 10);
        acts(x, 4, 1, 2, 99, 2, 50, 12);
        acts(x, 4, 1, 3, 5, 330 ^ 1, 13, 11, 30, 10);
        acts(x, 5, 1, 0, 5, 150 ^ 45, 60, 30, 10);
        acts(x, 5, 1, 1, 5, (150 ^ 45) * 2 + 45, 40, 11, 60, 30, 10);
        acts(x, 5, 1, 2, 86, 2, 61, 12);
        acts(x, 5, 1, 3, 5, ((150 ^ 45) * 2 + 45 ^ 1) + 0, 41, 13, 40, 11, 60, 30, 10, 61, 12);
        acts(x, 6, 1, 0, 5, 3, 70);
        acts(x, 6, 1, 1, 5, 3, 71, 70);
        acts(x, 6, 1, 2, 5, 7, 72);
        acts(x, 6, 1, 3, 5, 3 + 3, 73, 71, 70, 72);
        // of village 1 shares of 4 by DOWN and by EQUAL: parted by 3
        WaterThanks y = Check.villages(1, 1);
        Check.worths(y, 0, 4);
        Check.worths(y, 1, 4);
        acts(y, 3, 1, 3, 5, (27 * 2 + 4 ^ 1) + 2 / 3, 41, 13, 40, 11, 30, 10, 12);
        acts(y, 5, 1, 3, 5, ((27 ^ 4) * 2 + 4 ^ 1) + 4 / 3, 41, 13, 40, 11, 60, 30, 10, 61, 12);
        Check.worths(y, 1, 2);
        acts(y, 3, 1, 3, 5, (21 * 2 + 2 ^ 1) + 2 / 1, 41, 13, 40, 11, 30, 10, 12);
        acts(x, 0, 0, 0, MAX, MIN + 44, 10);
        acts(x, 6, 0, 0, MIN, MAX - 5, 70);
        acts(x, 0, 1, 1, MAX, (MAX + 30) * 2, 11, 10);
    }

    private static void promise36Now() {
        WaterThanks x = Check.villages(4, 1);
        Check.worths(x, 0, 5, 4, 3, 2, 1);
        Check.worths(x, 1, 9, 1);
        x.shelf(0, 6, 0);
        x.shelf(1, 0, 0);
        x.shelf(2, 5, 1);
        Check.due("36: flow", x.act(0, 0, 9), 5);
        Check.due("36: makes in best", x.act(1, 0, 0), 14);
        Check.due("36: equal share", x.act(2, 0, 0), 33 ^ 11);
        x.set(0, 0, 1);
        Check.due("36: flow as it is now", x.act(0, 0, 9), 8);
        Check.due("36: makes as it is now", x.act(1, 0, 0), 5);
        Check.due("36: share as it is now", x.act(2, 0, 0), 21 ^ 7);
    }

    private static void promise36Parted() {
        // of village 0 what nobody needs is worth nothing: a and n are 0; of village 1 a share of 1
        WaterThanks x = Check.villages(0, 1);
        Check.worths(x, 1, 1);
        acts(x, 0, 0, 2, 7, -15, 12);
        acts(x, 1, 1, 2, 7, -15, 12);
        acts(x, 3, 1, 2, 0, -15, 12);
        acts(x, 4, 1, 2, 7, -15, 50, 12);
        acts(x, 5, 1, 2, 7, 9 / -1, 61, 12);
        acts(x, 5, 0, 2, 7, 9, 61, 12);
        acts(x, 3, 1, 3, 5, -15, 41, 13, 40, 11, 30, 10, 12);
        acts(x, 2, 0, 3, 5, 30, 13, 11, 30, 10);
        acts(x, 2, 1, 2, 5, -15, 12);
        acts(x, 0, 0, 0, -15, -15, 10);
        Check.worths(x, 1, 2);
        acts(x, 3, 1, 2, MIN, MIN, 12);
        acts(x, 5, 1, 3, 5, -15, 41, 13, 40, 11, 60, 30, 10, 61, 12);
        x.set(1, 0, 0);
        acts(x, 1, 1, 2, MIN, MIN, 12);
        acts(x, 4, 1, 2, MIN, -MAX, 50, 12);
    }

    private static void promise36Nothing() {
        WaterThanks x = Check.threeVillages();
        x.shelf(0, 6, 1);
        x.sheet(0, 2, 3);
        x.shelf(1, 7, 0);
        int[][] calls = {{4, 0}, {-1, 0}, {0, 4}, {0, -1}, {1, 0}, {2, 3}, {MAX, MIN}};
        for (int[] call : calls) {
            x.act(0, 3, 1);
            Check.due("36: ran", x.many(5), 4);
            Check.due("36: act(" + call[0] + ", " + call[1] + ")", x.act(call[0], call[1], 9), 0);
            Check.due("36: no trace", x.many(5), 0);
            Check.due("36: no first body", x.trace(0), -3);
        }
    }

    private static void promise37() {
        WaterThanks x = Check.threeVillages();
        Check.due("37: none", x.trace(0), -3);
        x.shelf(0, 6, 1);
        x.act(0, 3, 5);
        int[] due = {73, 71, 70, 72};
        for (int i = 0; i < 4; i++) {
            Check.due("37: body " + i, x.trace(i), due[i]);
        }
        Check.due("37: body 4", x.trace(4), -3);
        Check.due("37: body -1", x.trace(-1), -3);
        Check.due("37: body 30", x.trace(30), -3);
        Check.due("37: extremes", x.trace(MIN), -3);
        x.act(0, 0, 5);
        Check.due("37: of the latest act", x.trace(0), 70);
        Check.due("37: of the latest act only", x.trace(1), -3);
    }

    private static void promise38() {
        WaterThanks x = Check.threeVillages();
        x.year(1);
        x.year(2);
        Check.read(x, "let 0 1;let 0 2;let 0 3;let 0 4;");
        x.prove();
        x.village(0);
        Check.feed(x, "let 0");
        x.shelf(0, 3, 1);
        x.act(0, 3, 5);
        x.dam(3, 2);
        int[] due = {4, 2, 4, 3, 5, 7, 2, 3};
        for (int what = 0; what < due.length; what++) {
            Check.due("38: many " + what, x.many(what), due[what]);
        }
        Check.due("38: what 8", x.many(8), -1);
        Check.due("38: what -1", x.many(-1), -1);
        Check.due("38: extremes", x.many(MIN), -1);
    }
}
