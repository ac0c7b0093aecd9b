/** Promises 10 to 15. */
final class SharingsTest {
    private static final int LOW_BAD = -1000001;
    private static final int MIN = Integer.MIN_VALUE;
    private static final int MAX = Integer.MAX_VALUE;

    public static void main(String[] args) {
        promise10();
        promise11();
        promise12();
        promise12Edges();
        promise13();
        promise14();
        promise14Laws();
        promise15();
        promise15Edges();
        Check.end();
    }

    private static void promise10() {
        WaterThanks x = Check.threeVillages();
        int[][] due = {{60, 91, 135}, {LOW_BAD, 30, 50}, {LOW_BAD, LOW_BAD, 0}};
        for (int a = 0; a < 3; a++) {
            for (int b = 0; b < 3; b++) {
                Check.due("10: run " + a + " to " + b, x.run(a, b), due[a][b]);
            }
        }
        Check.due("10: run to 3", x.run(0, 3), LOW_BAD);
        Check.due("10: run from -1", x.run(-1, 2), LOW_BAD);
        Check.due("10: run of extremes", x.run(MIN, MAX), LOW_BAD);
        // at 0 a passing measure harms by 4, but the first one below is worth 9, the next one 3
        WaterThanks y = Check.villages(5, 0);
        y.set(0, 1, 0);
        y.set(0, 2, 4);
        Check.worths(y, 0, 2, 1, 1, 1, 1);
        Check.worths(y, 1, 9, 3);
        Check.due("10: harm counts within", y.run(0, 1), 5 - 4 + 9);
        Check.due("10: harm counts at the last one", y.run(0, 0), 6);
        Check.due("10: none passes the one above", y.run(1, 1), 0);
        Check.worths(y, 0);
        Check.due("10: uses of no worth keep harm away", y.run(0, 0), 0);
        y.set(0, 1, 2);
        Check.due("10: up to the bank no harm", y.run(0, 1), 12);
    }

    private static void promise11() {
        WaterThanks x = Check.threeVillages();
        Check.due("11: most 0", x.most(0), 60);
        Check.due("11: most 1", x.most(1), 36);
        Check.due("11: most 2", x.most(2), 75);
        x.set(0, 0, 1);
        Check.due("11: as come in above", x.most(2), 60);
        x.best(20);
        Check.due("11: of wet 10", x.most(0), 20);
        x.set(0, 0, 12);
        x.set(1, 0, 12);
        x.set(2, 0, 12);
        Check.worths(x, 2, 9, 9, 9, 9, 9, 9, 9, 9, 9, 9, 9, 9);
        Check.due("11: 12 at most", x.most(2), 108);
        Check.due("11: village 3", x.most(3), -1);
        Check.due("11: village -1", x.most(-1), -1);
    }

    private static void promise12() {
        WaterThanks x = Check.threeVillages();
        int[][][] due = {
            {{60, 0}, {30, 0}, {0, 0}},
            {{60, 15}, {31, 1}, {44, -16}},
            {{85, 40}, {50, 20}, {0, -60}},
            {{45, 0}, {45, 15}, {45, -15}},
        };
        for (int sharing = 0; sharing < 4; sharing++) {
            for (int v = 0; v < 3; v++) {
                for (int what = 0; what < 2; what++) {
                    String call = "12: share(" + sharing + ", " + v + ", " + what + ")";
                    Check.due(call, x.share(sharing, v, what), due[sharing][v][what]);
                }
            }
        }
        Check.due("12: sharing 4", x.share(4, 0, 0), LOW_BAD);
        Check.due("12: sharing -1", x.share(-1, 0, 0), LOW_BAD);
        Check.due("12: village 3", x.share(0, 3, 0), LOW_BAD);
        Check.due("12: village -1", x.share(0, -1, 1), LOW_BAD);
        Check.due("12: what 2", x.share(0, 0, 2), LOW_BAD);
        Check.due("12: what -1", x.share(0, 0, -1), LOW_BAD);
        Check.due("12: extremes", x.share(MAX, MIN, MAX), LOW_BAD);
    }

    private static void promise12Edges() {
        // what is left of 135 + 2: one each to the first ones
        WaterThanks x = Check.threeVillages();
        Check.worths(x, 0, 22, 15, 10, 5, 5, 5);
        int[] due = {46, 46, 45};
        for (int v = 0; v < 3; v++) {
            Check.due("12: equal, " + v, x.share(3, v, 0), due[v]);
        }
        // KEEP is harmed by what it lets pass, THANKS of it are 0 all the same
        WaterThanks y = Check.villages(5, 5);
        y.set(0, 1, 1);
        y.set(0, 2, 3);
        Check.worths(y, 0, 7, 7);
        Check.worths(y, 1, 1, 1, 1);
        Check.due("12: keep, harmed", y.share(0, 0, 0), 14 - 6);
        Check.due("12: keep, what passes comes below", y.share(0, 1, 0), 3);
        Check.due("12: keep asks no thanks", y.share(0, 0, 1), 0);
        y.set(0, 2, 9);
        Check.due("12: keep, below 0", y.share(0, 0, 0), -4);
        WaterThanks z = Check.villages(12);
        Check.worths(z, 0, 1, 1, 1, 1, 1, 1, 1, 1, 1, 1, 1, 1);
        for (int sharing = 0; sharing < 4; sharing++) {
            Check.due("12: one village, " + sharing, z.share(sharing, 0, 0), 12);
        }
        // the first one of two where nothing comes in: only EQUAL gives it a share
        WaterThanks u = Check.villages(0, 3);
        Check.worths(u, 1, 4, 4, 4);
        Check.due("12: down, nothing comes at 0", u.share(1, 0, 0), 0);
        Check.due("12: down, all at 1", u.share(1, 1, 0), 12);
        Check.due("12: up, nothing at 0", u.share(2, 0, 0), 0);
        Check.due("12: up, all at 1", u.share(2, 1, 0), 12);
        Check.due("12: equal of both", u.share(3, 0, 1), 6);
        Check.due("12: equal, given away", u.share(3, 1, 1), -6);
    }

    private static void promise13() {
        WaterThanks x = Check.threeVillages();
        Check.due("13: keep", x.broken(0), 101);
        Check.due("13: down", x.broken(1), 0);
        Check.due("13: up", x.broken(2), 200);
        Check.due("13: equal", x.broken(3), 100);
        Check.due("13: sharing 4", x.broken(4), -1);
        Check.due("13: sharing -1", x.broken(-1), -1);
        WaterThanks none = new WaterThanks();
        for (int sharing = 0; sharing < 4; sharing++) {
            Check.due("13: no village, " + sharing, none.broken(sharing), 0);
        }
        WaterThanks y = Check.villages(0, 3, 3);
        Check.worths(y, 1, 9, 9, 9);
        Check.worths(y, 2, 5, 5, 5);
        Check.due("13: law 11 of equal", y.broken(3), 111);
        Check.worths(y, 1, 4, 4, 4);
        Check.worths(y, 2, 3, 3, 3);
        Check.due("13: law 11 of equal, again", y.broken(3), 111);
        WaterThanks w = Check.villages(3, 0, 0);
        Check.worths(w, 2, 9, 9, 9);
        Check.due("13: most of 0", w.broken(3), 200);
        Check.worths(w, 0, 9);
        Check.due("13: most of 1", w.broken(3), 201);
        WaterThanks z = Check.villages(3, 3, 0);
        Check.worths(z, 0, 9);
        Check.worths(z, 1, 9);
        Check.worths(z, 2, 9);
        // KEEP: 9, 9, and 9 of what passes both
        Check.due("13: all hold", z.broken(0), 0);
        Check.worths(z, 1, 9, 1, 1, 1, 1, 1);
        Check.due("13: 12 is more than kept", z.broken(0), 102);
        z.set(2, 0, 1);
        Check.due("13: of its own", z.broken(0), 0);
    }

    private static void promise14() {
        WaterThanks x = Check.threeVillages();
        Check.due("14: sheet 4", x.lawful(4), -1);
        Check.due("14: sheet -1", x.lawful(-1), -1);
        Check.due("14: missing", x.lawful(1), -11);
        x.sheet(1, 3, 3);
        Check.due("14: longs", x.lawful(1), -13);
        x.sheet(1, 1, 2);
        Check.due("14: sort ahead of state", x.lawful(1), -13);
        x.sheet(1, 2, 2);
        Check.due("14: 2 numbers", x.lawful(1), -4);
        x.sheet(1, 2, 4);
        Check.due("14: 4 numbers", x.lawful(1), -4);
        Check.fill(x, 1, 2, 10000, 0, -9999);
        Check.due("14: 10000", x.lawful(1), -4);
        Check.fill(x, 1, 2, 9999, 1, -10000);
        Check.due("14: -10000", x.lawful(1), -4);
        Check.fill(x, 1, 2, MIN, MAX, 1);
        Check.due("14: extremes", x.lawful(1), -4);
        Check.fill(x, 1, 2, 9999, 0, -9998);
        Check.due("14: not 0 together", x.lawful(1), 300);
        Check.fill(x, 1, 2, -9999, 0, 9999);
        Check.due("14: 0 together", x.lawful(1), 100);
        WaterThanks none = new WaterThanks();
        none.sheet(0, 2, 0);
        Check.due("14: no village, no numbers", none.lawful(0), 0);
        none.sheet(0, 2, 1);
        Check.due("14: no village, a number", none.lawful(0), -4);
    }

    private static void promise14Laws() {
        WaterThanks x = Check.threeVillages();
        Check.fill(x, 1, 2, 15, 1, -16);
        Check.due("14: thanks of DOWN", x.lawful(1), 0);
        Check.fill(x, 1, 2, 14, 2, -16);
        Check.due("14: law 00", x.lawful(1), 100);
        Check.fill(x, 1, 2, 15, 0, -15);
        Check.due("14: law 01", x.lawful(1), 101);
        Check.fill(x, 1, 2, 16, 0, -16);
        Check.due("14: most of 0", x.lawful(1), 200);
        Check.fill(x, 1, 2, 40, -20, -20);
        Check.due("14: law 11", x.lawful(1), 111);
        Check.fill(x, 1, 2, 57, 4, -61);
        Check.due("14: law 12 ahead of 22", x.lawful(1), 112);
        Check.fill(x, 1, 2, 40, 21, -61);
        Check.due("14: law 22", x.lawful(1), 122);
        Check.fill(x, 1, 2, 15, 7, -22);
        Check.due("14: most of 1", x.lawful(1), 201);
        Check.fill(x, 1, 2, 15, 6, -21);
        Check.due("14: as most of 1", x.lawful(1), 0);
    }

    private static void promise15() {
        WaterThanks x = Check.villages(0, 0);
        x.set(0, 3, 20);
        x.set(1, 3, 5);
        Check.due("15: within the limit", x.cleaning(-1), 0);
        x.set(1, 4, 7);
        x.set(0, 5, 4);
        x.set(1, 5, 2);
        Check.due("15: coins", x.cleaning(-1), 52);
        Check.due("15: village 0", x.cleaning(0), 13);
        Check.due("15: village 1", x.cleaning(1), 0);
        Check.due("15: village 2", x.cleaning(2), -1);
        Check.due("15: village -2", x.cleaning(-2), -1);
        Check.due("15: least int", x.cleaning(MIN), -1);
        x.set(0, 4, 0);
        Check.due("15: the limit of the first one is for nothing", x.cleaning(-1), 52);
        x.set(1, 4, 0);
        Check.due("15: limit 0", x.cleaning(-1), 80);
        Check.due("15: all cleaned", x.cleaning(0), 20);
        Check.due("15: no village", new WaterThanks().cleaning(-1), 0);
        Check.due("15: village 0 of none", new WaterThanks().cleaning(0), -1);
    }

    private static void promise15Edges() {
        // dear, cheap, dear: what must be away ahead of 3 is cleaned at 1, but 0 may let 9 pass only
        WaterThanks x = Check.villages(0, 0, 0, 0);
        int[] dirt = {12, 10, 3, 20};
        int[] limit = {99, 9, 30, 8};
        int[] coins = {5, 2, 9, 1};
        for (int v = 0; v < 4; v++) {
            x.set(v, 3, dirt[v]);
            x.set(v, 4, limit[v]);
            x.set(v, 5, coins[v]);
        }
        Check.due("15: coins of four", x.cleaning(-1), 15 + 28);
        int[] due = {3, 14, 0, 0};
        for (int v = 0; v < 4; v++) {
            Check.due("15: of four, " + v, x.cleaning(v), due[v]);
        }
        // of several ones of least cost the first village cleans least
        x.set(0, 5, 2);
        x.set(2, 5, 2);
        Check.due("15: same coins", x.cleaning(-1), 34);
        int[] dueLess = {3, 0, 13, 0};
        x.set(1, 5, 2);
        x.set(2, 4, 99);
        x.set(3, 4, 9);
        Check.due("15: the later one cleans", x.cleaning(-1), 32);
        for (int v = 0; v < 4; v++) {
            Check.due("15: less first, " + v, x.cleaning(v), dueLess[v]);
        }
        // nothing may pass the one above the last: the second one cleans all, for less than the first
        WaterThanks z = Check.villages(0, 0, 0);
        z.set(0, 3, 2);
        z.set(1, 3, 1);
        z.set(0, 5, 3);
        z.set(1, 5, 2);
        z.set(2, 4, 0);
        Check.due("15: all at the second", z.cleaning(-1), 6);
        Check.due("15: all three", z.cleaning(1), 3);
        z.set(1, 5, 3);
        Check.due("15: as dear at both", z.cleaning(0), 0);
        z.set(1, 5, 4);
        Check.due("15: dearer below", z.cleaning(0), 2);
        // the second one is the last one again: what passes it may be as dirty as it is
        WaterThanks u = Check.villages(0, 0);
        u.set(1, 3, 7);
        u.keep();
        u.village(0);
        u.set(2, 4, 3);
        Check.due("15: cleaned for the third", u.cleaning(1), 4);
        u.again();
        Check.due("15: no third one any more", u.cleaning(1), 0);
        WaterThanks y = Check.villages(0, 0, 0, 0, 0, 0);
        for (int v = 0; v < 6; v++) {
            y.set(v, 3, 20);
            y.set(v, 5, 9);
        }
        y.set(5, 4, 0);
        Check.due("15: most dirt", y.cleaning(-1), 900);
        Check.due("15: 99 pass, 1 must go first", y.cleaning(4), 100);
    }
}
