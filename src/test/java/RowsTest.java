/** Promises 26 to 29. */
final class RowsTest {
    private static final int MIN = Integer.MIN_VALUE;
    private static final int MAX = Integer.MAX_VALUE;

    public static void main(String[] args) {
        promise26();
        promise27();
        promise28();
        promise29Rows();
        promise29Villages();
        promise29Best();
        Check.end();
    }

    private static void promise26() {
        WaterThanks x = new WaterThanks();
        Check.due("26: none", x.prove(), 0);
        x = Check.threeVillages();
        Check.due("26: three", x.prove(), 3);
        Check.due("26: many", x.many(3), 3);
        x.village(1);
        Check.due("26: as they were", x.many(3), 3);
        Check.due("26: four", x.prove(), 4);
    }

    private static void promise27() {
        WaterThanks x = Check.threeVillages();
        Check.due("27: none yet", x.row(0, 0), -9);
        x.prove();
        int[][] due = {{0, 3, 3}, {1, 2, 3}, {2, 3, 0}};
        for (int i = 0; i < 3; i++) {
            for (int what = 0; what < 3; what++) {
                Check.due("27: row(" + i + ", " + what + ")", x.row(i, what), due[i][what]);
            }
        }
        Check.due("27: what 3", x.row(0, 3), -9);
        Check.due("27: what -1", x.row(0, -1), -9);
        Check.due("27: row 3", x.row(3, 0), -9);
        Check.due("27: row -1", x.row(-1, 0), -9);
        Check.due("27: extremes", x.row(MAX, MIN), -9);
        x.set(0, 0, 0);
        Check.due("27: as it was proved", x.row(0, 1), 3);
        x.prove();
        Check.due("27: proved anew", x.row(0, 1), 0);
    }

    private static void promise28() {
        WaterThanks x = Check.threeVillages();
        Check.due("28: none yet", x.alterRow(0, 0, 5), -9);
        x.prove();
        for (int what = 0; what < 3; what++) {
            int was = x.row(1, what);
            Check.due("28: was, " + what, x.alterRow(1, what, MIN + what), was);
            Check.due("28: becomes, " + what, x.row(1, what), MIN + what);
        }
        Check.due("28: the others stay", x.row(0, 1), 3);
        Check.due("28: what 3", x.alterRow(0, 3, 1), -9);
        Check.due("28: what -1", x.alterRow(0, -1, 1), -9);
        Check.due("28: row 3", x.alterRow(3, 0, 1), -9);
        Check.due("28: row -1", x.alterRow(-1, 0, 1), -9);
        Check.due("28: best is not altered", x.use(1, 0), 2);
        x.prove();
        Check.due("28: proved anew", x.row(1, 1), 2);
    }

    private static void altered(String what, int due, int... changes) {
        WaterThanks x = Check.threeVillages();
        x.prove();
        for (int k = 0; k < changes.length; k += 3) {
            x.alterRow(changes[k], changes[k + 1], changes[k + 2]);
        }
        Check.due("29: " + what, x.judge(), due);
    }

    private static void promise29Rows() {
        altered("all is right", 0);
        altered("another village", 1, 0, 0, 1);
        altered("no village", 2, 1, 0, -1);
        altered("use -1", 1, 0, 1, -1, 0, 2, 7);
        altered("use 13", 1, 0, 1, 13, 0, 2, -7);
        altered("more used than comes", 1, 0, 1, 7, 0, 2, -1);
        altered("not the rest", 3, 2, 2, 1);
        altered("the rest of extremes", 2, 1, 2, MIN);
        altered("use of extremes", 3, 2, 1, MAX);
        altered("the row behind one altered", 2, 0, 1, 2, 0, 2, 4);
        altered("the first of two", 2, 1, 2, 4, 2, 0, 0);
        altered("all used above: less than best", 22, 0, 1, 6, 0, 2, 0, 1, 2, 0, 2, 1, 0);
        altered("the last measure not used", 22, 2, 1, 2, 2, 2, 1);
        // 5 is worth as much for 1 as ... none: 8 of the last for 5 of the first
        altered("one more above, one less below", 22, 0, 1, 4, 0, 2, 2, 1, 2, 2, 2, 1, 2);
    }

    private static void promise29Villages() {
        WaterThanks x = Check.threeVillages();
        Check.due("29: no rows", x.judge(), 21);
        x.prove();
        x.village(0);
        Check.due("29: a village more", x.judge(), 21);
        x.alterRow(2, 2, 1);
        Check.due("29: a wrong row ahead of how many", x.judge(), 3);
        WaterThanks y = Check.villages(2, 2);
        y.keep();
        y.village(0);
        y.prove();
        y.again();
        Check.due("29: a row without a village", y.judge(), 3);
        y.alterRow(1, 0, 0);
        Check.due("29: the first wrong one", y.judge(), 2);
        WaterThanks z = Check.villages(12, 12, 12);
        for (int v = 0; v < 3; v++) {
            z.set(v, 1, 0);
        }
        z.prove();
        // 24 come to the second one, but it uses 12 at most
        z.alterRow(0, 1, 0);
        z.alterRow(0, 2, 12);
        z.alterRow(1, 1, 13);
        z.alterRow(1, 2, 11);
        Check.due("29: 13 of 24 used", z.judge(), 2);
        z.alterRow(1, 1, 12);
        z.alterRow(1, 2, 12);
        Check.due("29: 12 of 24 used", z.judge(), 3);
    }

    private static void promise29Best() {
        WaterThanks x = Check.threeVillages();
        x.prove();
        x.best(20);
        Check.due("29: wet 10", x.judge(), 0);
        x.set(2, 5, 4);
        Check.due("29: what doesn't count", x.judge(), 0);
        Check.worths(x, 0, 99, 99, 99, 99, 99, 99);
        Check.due("29: less than best by now", x.judge(), 22);
        x.set(0, 0, 5);
        Check.due("29: less comes by now", x.judge(), 1);
        // another way to make as much is right, too
        WaterThanks y = Check.villages(2, 0);
        Check.worths(y, 0, 5, 5);
        Check.worths(y, 1, 5, 5);
        y.prove();
        Check.due("29: less used first", y.row(0, 1), 0);
        y.alterRow(0, 1, 2);
        y.alterRow(0, 2, 0);
        y.alterRow(1, 1, 0);
        Check.due("29: as much as best", y.judge(), 0);
        y.set(0, 1, 0);
        y.set(0, 2, 1);
        Check.due("29: no harm", y.judge(), 0);
        y.alterRow(0, 1, 1);
        y.alterRow(0, 2, 1);
        y.alterRow(1, 1, 1);
        Check.due("29: harm counts", y.judge(), 22);
    }
}
