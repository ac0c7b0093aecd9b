/** The edges that sections 2 and 3 of the document's Terms name, sentence by sentence. */
final class EdgesOfSharingsTest {
    private static final int LOW_BAD = -1000001;

    public static void main(String[] args) {
        runsOnEitherSide();
        nothingPassesTheOneAbove();
        whatPassesTheLastOfARun();
        mostTwelve();
        keepUpToTheFirst0();
        keepWhateverTheTreaty();
        noVillages();
        downAndUpOfTheFirstAndTheLast();
        equalWithWhatIsLeft();
        thanks();
        lawsOnEitherSide();
        lawsInOrder();
        lawfulNumbers();
        lawfulTogether();
        limits();
        limitsOfSix();
        cleansWhatThereIs();
        lessCleanedFirst();
        Check.end();
    }

    private static void runsOnEitherSide() {
        for (int count = 1; count <= 6; count++) {
            WaterThanks x = Check.villages(new int[] {1, 1, 1, 1, 1, 1}, count);
            for (int v = 0; v < count; v++) {
                Check.worths(x, v, 3);
            }
            for (int a = -1; a <= count; a++) {
                for (int b = -1; b <= count; b++) {
                    int due = 0 <= a && a <= b && b < count ? 3 * (b - a + 1) : LOW_BAD;
                    Check.due("of " + count + ", run " + a + " to " + b, x.run(a, b), due);
                }
            }
        }
    }

    private static void nothingPassesTheOneAbove() {
        WaterThanks x = Check.villages(5, 0, 1);
        Check.worths(x, 1, 9, 9);
        Check.worths(x, 2, 4, 3);
        Check.due("with the one above", x.run(0, 2), 9 + 9 + 4 + 3);
        Check.due("without it", x.run(1, 2), 4);
        Check.due("nothing comes in at 1", x.run(1, 1), 0);
        Check.due("the last alone", x.run(2, 2), 4);
    }

    private static void whatPassesTheLastOfARun() {
        WaterThanks x = Check.villages(3, 0);
        Check.worths(x, 0, 2);
        Check.worths(x, 1, 90);
        Check.due("of no use to a run that ends above", x.run(0, 0), 2);
        Check.due("of use to one that doesn't", x.run(0, 1), 92);
        x.set(0, 1, 1);
        x.set(0, 2, 5);
        Check.due("its harm counts, but all can be used", x.run(0, 0), 2);
        x.set(1, 0, 12);
        x.set(1, 1, 11);
        x.set(1, 2, 7);
        Check.due("no harm at the last", x.run(0, 1), 92);
        Check.due("nor to it alone", x.run(1, 1), 90);
    }

    /** As many as come in at it and at all above it, 12 at most. */
    private static void mostTwelve() {
        WaterThanks x = Check.villages(0, 0, 12);
        int all = 0;
        for (int v = 0; v < 2; v++) {
            Check.worths(x, v, 12, 11, 10, 9, 8, 7, 6, 5, 4, 3, 2, 1);
        }
        for (int n = 0; n <= 12; n++) {
            x.set(0, 0, n);
            Check.due("most, " + n + " come in", x.most(0), all);
            Check.due("most below", x.most(1), all);
            all += 12 - n;
        }
        x.set(1, 0, 1);
        Check.due("13 come in", x.most(1), 78);
        Check.due("12 come in", x.most(0), 78);
        x.set(0, 0, 10);
        Check.due("11 come in", x.most(1), 77);
        x.set(1, 0, 2);
        Check.due("12 come in, as 10 and 2", x.most(1), 78);
        Check.due("what comes in below doesn't count", x.most(0), 75);
        Check.due("no worths", x.most(2), 0);
        for (int v = -2; v <= 5; v++) {
            Check.due("most(" + v + ")", (x.most(v) == -1) == (v < 0 || v > 2));
        }
    }

    private static void keepUpToTheFirst0() {
        for (int positive = 0; positive <= 12; positive++) {
            WaterThanks x = Check.villages(12, 0);
            int[] worths = new int[12];
            java.util.Arrays.fill(worths, 0, positive, 1);
            Check.worths(x, 0, worths);
            Check.worths(x, 1, 5, 5, 5, 5, 5, 5, 5, 5, 5, 5, 5, 5);
            Check.due("keep: uses " + positive, x.share(0, 0, 0), positive);
            Check.due("keep: the rest passes", x.share(0, 1, 0), 5 * (12 - positive));
            x.set(0, 1, 0);
            x.set(0, 2, 1);
            Check.due("keep: not against harm", x.share(0, 0, 0), positive - (12 - positive));
            x.set(0, 0, 6);
            int used = Math.min(6, positive);
            Check.due("keep: as many as it can", x.share(0, 0, 0), used - (6 - used));
        }
        WaterThanks y = Check.villages(12, 12);
        Check.worths(y, 1, 1, 1, 1, 1, 1, 1, 1, 1, 1, 1, 1, 1);
        y.set(1, 1, 11);
        y.set(1, 2, 5);
        Check.due("keep: 12 of 24", y.share(0, 1, 0), 12 - 5);
        y.set(1, 1, 12);
        Check.due("keep: 12 of 24, up to the bank", y.share(0, 1, 0), 12);
    }

    /** Neither the treaty nor the dam nor the years count in SHARINGS. */
    private static void keepWhateverTheTreaty() {
        WaterThanks x = Check.threeVillages();
        Check.read(x, "let 0 99; let 1 99; let 2 99;");
        x.year(20);
        x.dam(0, 4);
        int[][] due = {{60, 30, 0}, {60, 31, 44}, {85, 50, 0}, {45, 45, 45}};
        int[] breaks = {101, 0, 200, 100};
        for (int sharing = 0; sharing < 4; sharing++) {
            for (int v = 0; v < 3; v++) {
                Check.due("by the treaty all passes, sharing " + sharing, x.share(sharing, v, 0), due[sharing][v]);
            }
            Check.due("the break of sharing " + sharing, x.broken(sharing), breaks[sharing]);
        }
        Check.fill(x, 0, 2, 15, 1, -16);
        Check.due("thanks", x.lawful(0), 0);
    }

    private static void noVillages() {
        WaterThanks x = new WaterThanks();
        for (int sharing = -1; sharing <= 4; sharing++) {
            boolean told = sharing >= 0 && sharing <= 3;
            Check.due("no village, sharing " + sharing, x.broken(sharing), told ? 0 : -1);
            Check.due("no village's share, sharing " + sharing, x.share(sharing, 0, 0), LOW_BAD);
        }
        x.sheet(0, 2, 0);
        Check.due("no thanks of no villages", x.lawful(0), 0);
        Check.due("no coins", x.cleaning(-1), 0);
    }

    private static void downAndUpOfTheFirstAndTheLast() {
        for (int count = 1; count <= 6; count++) {
            WaterThanks x = Check.villages(new int[] {4, 0, 3, 0, 0, 2}, count);
            for (int v = 0; v < count; v++) {
                Check.worths(x, v, 10 + v, 3 + 2 * v, 2);
            }
            int last = count - 1;
            Check.due("down of 0", x.share(1, 0, 0), x.run(0, 0));
            Check.due("up of the last", x.share(2, last, 0), x.run(last, last));
            int down = 0;
            int up = 0;
            for (int v = 0; v < count; v++) {
                down += x.share(1, v, 0);
                up += x.share(2, last - v, 0);
                Check.due("down to " + v, down, x.run(0, v));
                Check.due("up to " + (last - v), up, x.run(last - v, last));
            }
            for (int v = 0; v < 6; v++) {
                Check.due("of " + count + ", " + v, (x.share(1, v, 0) == LOW_BAD) == (v >= count));
                Check.due("of " + count + ", up " + v, (x.share(2, v, 1) == LOW_BAD) == (v >= count));
            }
        }
    }

    private static void equalWithWhatIsLeft() {
        for (int count = 1; count <= 6; count++) {
            for (int coins = 0; coins <= 13; coins++) {
                WaterThanks x = Check.villages(new int[] {1, 0, 0, 0, 0, 0}, count);
                Check.worths(x, count - 1, coins);
                int all = 0;
                for (int v = 0; v < count; v++) {
                    int due = coins / count + (v < coins % count ? 1 : 0);
                    Check.due(coins + " by " + count + ": " + v, x.share(3, v, 0), due);
                    all += x.share(3, v, 0);
                }
                Check.due(coins + " by " + count + ": all", all, coins);
            }
        }
    }

    private static void thanks() {
        WaterThanks x = Check.villages(4, 0);
        Check.worths(x, 0, 5, 4, 3, 2);
        Check.worths(x, 1, 9, 9, 1);
        x.set(0, 1, 0);
        x.set(0, 2, 1);
        // in BEST 2 are used at 0, 2 pass it: 9 - 2 and 18
        Check.due("makes in best", x.use(0, 2), 7);
        Check.due("makes in best below", x.use(1, 2), 18);
        int[][] due = {{14, 0, 0, 0}, {14, 7, 11, -7}, {25, 18, 0, -18}, {13, 6, 12, -6}};
        for (int sharing = 0; sharing < 4; sharing++) {
            for (int v = 0; v < 2; v++) {
                String call = "sharing " + sharing + " of " + v;
                Check.due(call, x.share(sharing, v, 0), due[sharing][2 * v]);
                Check.due("thanks by " + call, x.share(sharing, v, 1), due[sharing][2 * v + 1]);
            }
        }
    }

    /** The first law that shares break, of villages that have by runs 60 91 135, 30 50, 0, and at most 60 36 75. */
    private static int dueBreak(int a, int b, int c) {
        if (a < 60) {
            return 100;
        }
        if (a + b < 91) {
            return 101;
        }
        if (b < 30) {
            return 111;
        }
        if (b + c < 50) {
            return 112;
        }
        if (c < 0) {
            return 122;
        }
        if (a > 60) {
            return 200;
        }
        return b > 36 ? 201 : c > 75 ? 202 : 0;
    }

    private static void lawsOnEitherSide() {
        int[] ofB = {28, 29, 30, 31, 32, 35, 36, 37, 50, 74, 75, 76, 77};
        for (int a = 57; a <= 63; a++) {
            lawsOf(a, ofB);
        }
        lawsOf(84, 20, 29, 30, 31, 51, 52);
        lawsOf(85, 20, 29, 30, 31, 50, 51);
        lawsOf(86, 20, 29, 30, 31, 49, 50);
    }

    private static void lawsOf(int a, int... ofB) {
        WaterThanks x = Check.threeVillages();
        x.sheet(0, 2, 3);
        for (int b : ofB) {
            int c = 135 - a - b;
            x.put(0, 0, a - 45);
            x.put(0, 1, b - 30);
            x.put(0, 2, c - 60);
            Check.due("law of " + a + ", " + b + ", " + c, x.lawful(0), dueBreak(a, b, c));
        }
    }

    /** Villages that have 3 each: all runs count, first by a, then by b, then each village's most. */
    private static void lawsInOrder() {
        int[][] thanks = {
            {-1, 1, 0, 0, 0, 0, 100}, {0, -1, 1, 0, 0, 0, 101}, {0, 0, -1, 1, 0, 0, 102}, {0, 0, 0, -1, 1, 0, 103},
            {0, 0, 0, 0, -1, 1, 104}, {1, -1, 0, 0, 0, 0, 111}, {1, 0, -1, 0, 0, 0, 112}, {1, 0, 0, -1, 0, 0, 113},
            {1, 0, 0, 0, -1, 0, 114}, {1, 0, 0, 0, 0, -1, 115}, {0, 1, -1, 0, 0, 0, 122}, {0, 1, 0, -1, 0, 0, 123},
            {0, 1, 0, 0, -1, 0, 124}, {0, 1, 0, 0, 0, -1, 125}, {0, 0, 1, -1, 0, 0, 133}, {0, 0, 1, 0, -1, 0, 134},
            {0, 0, 1, 0, 0, -1, 135}, {0, 0, 0, 1, -1, 0, 144}, {0, 0, 0, 1, 0, -1, 145}, {0, 0, 0, 0, 1, -1, 155},
            {0, 0, 0, 0, 0, 0, 0}, {2, -1, -1, 0, 0, 0, 111}, {-1, 0, 0, 0, 0, 1, 100}, {9, 0, 0, 0, -9, 0, 114},
        };
        WaterThanks x = Check.villages(1, 1, 1, 1, 1, 1);
        for (int v = 0; v < 6; v++) {
            Check.worths(x, v, 3);
        }
        for (int[] one : thanks) {
            Check.fill(x, 0, 2, one[0], one[1], one[2], one[3], one[4], one[5]);
            Check.due("law " + one[6], x.lawful(0), one[6]);
        }
        // where nothing can be made alone, MOST is what is left to break
        WaterThanks y = Check.villages(0, 0, 0, 0, 0, 0);
        for (int v = 0; v < 5; v++) {
            int[] row = new int[6];
            row[v] = 1;
            row[v + 1] = -1;
            Check.fill(y, 0, 2, row);
            Check.due("a run ahead of most", y.lawful(0), 111 + 11 * v);
        }
        y.set(0, 0, 1);
        Check.worths(y, 5, 6);
        int[] most = {1, 0, 0, 0, 0, -1};
        for (int v = 0; v < 5; v++) {
            Check.fill(y, 0, 2, most);
            Check.due("most of " + v, y.lawful(0), 200 + v);
            most[v] = 0;
            most[v + 1]++;
        }
        Check.fill(y, 0, 2, 0, 0, 0, 0, 0, 0);
        Check.due("as most of the last", y.lawful(0), 0);
        Check.worths(y, 1, 2);
        Check.fill(y, 0, 2, 0, 2, 0, 0, 0, -2);
        Check.due("as most of 1", y.lawful(0), 0);
        Check.fill(y, 0, 2, 0, 3, 0, 0, 0, -3);
        Check.due("above most of 1", y.lawful(0), 201);
    }

    private static void lawfulNumbers() {
        for (int count = 0; count <= 6; count++) {
            WaterThanks x = Check.villages(new int[6], count);
            for (int n = 0; n <= 8; n++) {
                x.sheet(0, 2, n);
                Check.due(n + " numbers of " + count + " villages", x.lawful(0), n == count ? 0 : -4);
            }
        }
        int[] ends = {-10001, -10000, -9999, -9998, 0, 9998, 9999, 10000, 10001};
        for (int at = 0; at < 2; at++) {
            for (int n : ends) {
                WaterThanks x = Check.villages(0, 0);
                x.sheet(0, 2, 2);
                x.put(0, at, n);
                boolean told = n >= -9999 && n <= 9999;
                Check.due(n + " at " + at, x.lawful(0), !told ? -4 : n == 0 ? 0 : 300);
            }
        }
    }

    private static void lawfulTogether() {
        WaterThanks x = Check.threeVillages();
        int[][] due = {{15, 1, -16, 0}, {15, 1, -15, 300}, {15, 1, -17, 300}, {9999, -9999, 0, 101},
            {9999, 9999, 9999, 300}, {-9999, -9999, -9999, 300}, {0, 0, 1, 300}, {0, 0, 0, 100}, {-9999, 0, 9998, 300}};
        for (int[] one : due) {
            Check.fill(x, 0, 2, one[0], one[1], one[2]);
            Check.due("thanks " + one[0] + ", " + one[1] + ", " + one[2], x.lawful(0), one[3]);
        }
    }

    private static void limits() {
        for (int dirt : new int[] {0, 1, 10, 20}) {
            for (int limit : new int[] {0, 1, 9, 10, 11, 19, 20, 21, 99}) {
                WaterThanks x = Check.villages(0, 0);
                x.set(0, 3, dirt);
                x.set(0, 5, 3);
                x.set(1, 4, limit);
                int due = Math.max(0, dirt - limit);
                Check.due("dirt " + dirt + ", limit " + limit, x.cleaning(0), due);
                Check.due("its coins", x.cleaning(-1), 3 * due);
                x.set(1, 3, 20);
                x.set(0, 4, 0);
                Check.due("own dirt and the first one's limit count nothing", x.cleaning(-1), 3 * due);
                Check.due("the last one cleans nothing", x.cleaning(1), 0);
            }
        }
        WaterThanks one = Check.villages(0);
        one.set(0, 3, 20);
        one.set(0, 4, 0);
        Check.due("one village", one.cleaning(-1), 0);
        Check.due("one village cleans nothing", one.cleaning(0), 0);
        for (int v = -3; v <= 3; v++) {
            Check.due("cleaning(" + v + ")", one.cleaning(v), v == -1 || v == 0 ? 0 : -1);
        }
    }

    /** 20 of each: 99 may come past the fifth, but 100 would. */
    private static void limitsOfSix() {
        WaterThanks x = Check.villages(0, 0, 0, 0, 0, 0);
        for (int v = 0; v < 6; v++) {
            x.set(v, 3, 20);
            x.set(v, 5, 9);
        }
        Check.due("one too many", x.cleaning(-1), 9);
        int[] due = {0, 0, 0, 0, 1, 0};
        for (int v = 0; v < 6; v++) {
            Check.due("the last that can cleans: " + v, x.cleaning(v), due[v]);
        }
        x.set(2, 5, 8);
        Check.due("cheaper at 2", x.cleaning(2), 1);
        Check.due("cheaper coins", x.cleaning(-1), 8);
        x.set(2, 3, 19);
        Check.due("99 come", x.cleaning(-1), 0);
        x.set(5, 4, 98);
        Check.due("99 come, 98 may", x.cleaning(-1), 8);
        x.set(0, 5, 1);
        Check.due("cheapest at 0", x.cleaning(0), 1);
        x.set(5, 4, 0);
        Check.due("20 at 1, 59 at 8, 20 at 9: the later ones can't be cleaned cheaper", x.cleaning(-1),
            20 + 39 * 8 + 40 * 9);
    }

    private static void cleansWhatThereIs() {
        WaterThanks x = Check.villages(0, 0, 0);
        x.set(0, 3, 4);
        x.set(1, 3, 3);
        x.set(0, 5, 2);
        x.set(2, 4, 1);
        Check.due("what came past and its own", x.cleaning(1), 6);
        Check.due("of one coin each", x.cleaning(-1), 6);
        x.set(2, 4, 0);
        Check.due("all that there is", x.cleaning(1), 7);
        x.set(1, 4, 0);
        Check.due("nothing comes past the first one", x.cleaning(0), 4);
        Check.due("its own", x.cleaning(1), 3);
        Check.due("coins of both", x.cleaning(-1), 4 * 2 + 3);
        x.set(1, 5, 9);
        Check.due("dear, but it must", x.cleaning(-1), 4 * 2 + 3 * 9);
        x.set(1, 3, 0);
        Check.due("nothing of its own", x.cleaning(1), 0);
    }

    private static void lessCleanedFirst() {
        WaterThanks x = Check.villages(0, 0, 0);
        x.set(0, 3, 10);
        x.set(1, 3, 10);
        x.set(2, 4, 5);
        for (int clean = 1; clean <= 9; clean++) {
            x.set(0, 5, clean);
            x.set(1, 5, clean);
            Check.due("as dear, " + clean, x.cleaning(-1), 15 * clean);
            Check.due("less at the first one", x.cleaning(0), 0);
            Check.due("all at the second one", x.cleaning(1), 15);
        }
        x.set(1, 4, 7);
        Check.due("no more than it must", x.cleaning(0), 3);
        Check.due("the rest below", x.cleaning(1), 12);
        x.set(0, 5, 8);
        Check.due("cheaper at the first one", x.cleaning(0), 10);
        Check.due("cheaper, the rest below", x.cleaning(1), 5);
    }
}
