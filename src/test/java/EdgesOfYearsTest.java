/** The edges that section 4 of the document's Terms names, but for texts. */
final class EdgesOfYearsTest {
    private static final int LOW_BAD = -1000001;

    public static void main(String[] args) {
        sixYears();
        damOnEitherSide();
        holdsOnEitherSide();
        noneAheadOfYear0();
        notMoreThanThereIs();
        heldOverAllYears();
        lessHeldFirst();
        keptOnEitherSide();
        letsOnEitherSide();
        usesOfTheRest();
        lostOfAllYears();
        plain();
        breaksOnlyForMore();
        rowsOnEitherSide();
        rowsInOrder();
        Check.end();
    }

    private static void sixYears() {
        WaterThanks x = Check.villages(10);
        Check.worths(x, 0, 1, 1, 1, 1, 1, 1, 1, 1, 1, 1, 1, 1);
        int all = 0;
        for (int y = 0; y < 6; y++) {
            Check.due("years so far", x.many(1), y);
            Check.due("none of these yet", x.yearOf(y, 3), -1);
            Check.due("none is kept yet", x.kept(y), LOW_BAD);
            Check.due("the next year", x.year(y + 1), y);
            all += y + 1;
            Check.due("all make together", x.kept(-1), all);
        }
        Check.due("the seventh", x.year(7), -2);
        Check.due("six years", x.many(1), 6);
        Check.due("no year 6", x.kept(6), LOW_BAD);
        for (int y = 0; y < 6; y++) {
            Check.due("numbered as they come", x.yearOf(y, 20 - y), y + 1);
        }
        for (int y = 0; y < 6; y++) {
            Check.due("each became its own", x.yearOf(y, 0), 20 - y);
        }
        Check.due("dry", x.kept(-1), 0);
    }

    private static void damOnEitherSide() {
        for (int count = 0; count <= 6; count++) {
            WaterThanks x = Check.villages(new int[6], count);
            int stands = -1;
            for (int v = -3; v <= 7; v++) {
                boolean told = v >= -1 && v < count;
                Check.due("of " + count + ", dam at " + v, x.dam(v, 2), told ? 1 : -1);
                stands = told ? v : stands;
                Check.due("it stands at", x.many(7), stands);
            }
        }
        WaterThanks x = Check.villages(3);
        Check.due("at first at none", x.many(7), -1);
        Check.due("at first it holds", x.many(6), 0);
        int holds = 0;
        for (int h = -2; h <= 6; h++) {
            boolean told = h >= 0 && h <= 4;
            Check.due("holds " + h, x.dam(0, h), told ? 1 : -1);
            holds = told ? h : holds;
            Check.due("it holds", x.many(6), holds);
        }
        Check.due("none with a wrong one", x.dam(-1, 5), -1);
        Check.due("still there", x.many(7), 0);
    }

    /** 10 come, then none: each held measure is worth 7 where it would be worth nothing. */
    private static void holdsOnEitherSide() {
        WaterThanks x = Check.villages(10);
        Check.worths(x, 0, 7, 7, 7, 7, 7);
        x.year(10);
        x.year(0);
        Check.due("at none", x.kept(-1), 35);
        for (int holds = 0; holds <= 4; holds++) {
            x.dam(0, holds);
            Check.due("all that it holds, " + holds, x.kept(0), holds);
            Check.due("is worth 7 each", x.kept(-1), 35 + 7 * holds);
            Check.due("none behind the last", x.kept(1), 0);
            x.dam(-1, holds);
            Check.due("at none it is of no use", x.kept(-1), 35);
            Check.due("at none it holds none", x.kept(0), 0);
        }
        x.dam(0, 4);
        x.yearOf(1, 3);
        Check.due("3 come, 2 are of use", x.kept(0), 2);
        x.yearOf(1, 5);
        Check.due("5 come, none is of use", x.kept(0), 0);
    }

    private static void noneAheadOfYear0() {
        WaterThanks x = Check.villages(10);
        Check.worths(x, 0, 9, 9, 9, 9);
        x.dam(0, 4);
        x.year(0);
        x.year(10);
        Check.due("nothing is held ahead of year 0", x.kept(-1), 36);
        Check.due("nor behind it", x.kept(0), 0);
        Check.due("nor behind the last one", x.kept(1), 0);
    }

    /** What comes in at the dam is not below 0: h and i that would have it so can't be. */
    private static void notMoreThanThereIs() {
        for (int flow = 0; flow <= 6; flow++) {
            WaterThanks x = Check.villages(12, flow);
            Check.worths(x, 1, 9, 9, 9, 9, 9, 9, 9, 9, 9, 9, 9, 9);
            x.set(0, 1, 0);
            Check.worths(x, 0, 1, 1, 1, 1, 1, 1, 1, 1, 1, 1, 1, 1);
            x.dam(1, 4);
            x.year(10);
            x.year(0);
            // 12 pass the first one: what comes in at the second is held as far as it does
            int held = Math.min(flow, 4);
            Check.due("held of " + flow, x.kept(0), held);
            Check.due("all make, with flow " + flow, x.kept(-1), 9 * 12 + flow - held + 9 * held);
        }
        // what was held may be held on, and no more than that
        WaterThanks y = Check.villages(2);
        Check.worths(y, 0, 9, 8);
        y.dam(0, 4);
        y.year(20);
        y.year(0);
        y.year(0);
        Check.due("one for each dry year", y.kept(0), 2);
        Check.due("one held on", y.kept(1), 1);
        Check.due("all make", y.kept(-1), 17 + 9 + 9);
        y.set(0, 0, 0);
        Check.due("nothing to hold", y.kept(0), 0);
        Check.due("nothing is made", y.kept(-1), 0);
        y.set(0, 0, 1);
        Check.due("two come, each is worth most alone", y.kept(-1), 9 + 9);
        Check.due("held for year 1 no less than for year 2", y.kept(0), 1);
        Check.due("less held first", y.kept(1), 0);
    }

    private static void heldOverAllYears() {
        WaterThanks x = Check.villages(12);
        Check.worths(x, 0, 9, 9, 9, 9, 9, 9, 9, 9, 9, 9, 9, 9);
        x.dam(0, 4);
        x.year(20);
        for (int y = 1; y < 5; y++) {
            x.year(10);
        }
        x.year(0);
        Check.due("four over six years", x.kept(-1), 9 * 12 * 5 + 9 * 4);
        // each year between has just what it can use: the four of year 0 are held on
        for (int y = 0; y < 6; y++) {
            Check.due("held behind " + y, x.kept(y), y < 5 ? 4 : 0);
        }
        x.set(0, 0, 6);
        // 12 come in the first year, 6 in those between
        Check.due("held where it may be needed", x.kept(-1), 9 * (12 + 4 * 6));
        Check.due("but not, where all is as good", x.kept(0), 0);
        Check.worths(x, 0, 9, 9, 9, 9, 9, 9);
        Check.due("of use in the last year only", x.kept(-1), 9 * (5 * 6 + 4));
        for (int y = 0; y < 5; y++) {
            Check.due("held on for it behind " + y, x.kept(y), 4);
        }
    }

    private static void lessHeldFirst() {
        WaterThanks x = Check.villages(8);
        Check.worths(x, 0, 5, 5, 5, 5, 5, 5, 5, 5, 5, 5, 5, 5);
        x.dam(0, 4);
        for (int y = 0; y < 3; y++) {
            x.year(10);
        }
        Check.due("as good now as later", x.kept(-1), 120);
        for (int y = 0; y < 3; y++) {
            Check.due("so none is held behind " + y, x.kept(y), 0);
        }
        // a measure is worth 5 more in any later year: it goes to the next one
        Check.worths(x, 0, 5, 5, 5, 5, 5, 5, 5, 5);
        x.yearOf(0, 11);
        x.yearOf(1, 5);
        x.yearOf(2, 5);
        x.set(0, 0, 10);
        Check.due("11 come, 8 are of use, then 5 and 5", x.kept(-1), 5 * (8 + 5 + 5 + 3));
        Check.due("three held", x.kept(0), 3);
        Check.due("none held on", x.kept(1), 0);
        x.yearOf(0, 9);
        Check.due("one held", x.kept(0), 1);
        Check.due("none held on, too", x.kept(1), 0);
    }

    private static void keptOnEitherSide() {
        WaterThanks x = Check.villages(1);
        x.year(10);
        x.year(10);
        for (int year = -3; year <= 4; year++) {
            Check.due("kept(" + year + ")", x.kept(year), year >= -1 && year <= 1 ? 0 : LOW_BAD);
        }
        WaterThanks none = new WaterThanks();
        none.year(10);
        Check.due("no village", none.kept(-1), 0);
        Check.due("no village, behind year 0", none.kept(0), 0);
        none.dam(-1, 4);
        Check.due("no village, a dam at none", none.kept(0), 0);
    }

    private static void letsOnEitherSide() {
        for (int told : new int[] {0, 1, 6, 7, 8, 99}) {
            WaterThanks x = Check.villages(7);
            Check.worths(x, 0, 3, 3, 3, 3, 3, 3, 3, 3, 3, 3, 3, 3);
            Check.due("let 0 " + told, Check.read(x, "let 0 " + told + ";"), 1);
            int lets = Math.min(told, 7);
            Check.due("it lets what comes at most, of " + told, x.treaty(10, 0, 1), lets);
            Check.due("it uses the rest", x.treaty(10, 0, 2), 7 - lets);
            Check.due("it makes", x.treaty(10, 0, 3), 3 * (7 - lets));
            Check.due("what comes", x.treaty(10, 0, 0), 7);
            Check.due("a dry year", x.treaty(0, 0, 1), 0);
        }
        WaterThanks x = Check.villages(0, 0, 0, 0, 0, 9);
        Check.read(x, "let 5 4; let 0 3;");
        Check.due("the last village there can be", x.treaty(10, 5, 1), 4);
        Check.due("nothing comes, nothing is let", x.treaty(10, 0, 1), 0);
        Check.due("no line for it", x.treaty(10, 3, 1), 0);
        WaterThanks few = Check.villages(9);
        Check.due("lines for villages that are not there", Check.read(few, "let 5 4; let 1 3;"), 2);
        Check.due("count nothing", few.treaty(10, 0, 1), 0);
        few.village(9);
        Check.due("until they are there", few.treaty(10, 1, 1), 3);
        Check.read(few, "let 0 3; let 0 4 if wet = 10; let 0 5 if wet = 11; let 0 6 if wet > 19;");
        int[][] due = {{9, 3}, {10, 4}, {11, 5}, {12, 3}, {19, 3}, {20, 6}};
        for (int[] one : due) {
            Check.due("the last that holds, wet " + one[0], few.treaty(one[0], 0, 1), one[1]);
        }
        Check.read(few, "let 0 6 if wet > 19; let 0 0;");
        Check.due("a last line without a condition always holds", few.treaty(20, 0, 1), 0);
        Check.due("a line of another village counts nothing", few.treaty(20, 1, 1), 0);
    }

    private static void usesOfTheRest() {
        WaterThanks x = Check.villages(12, 5);
        Check.worths(x, 0, 4, 3, 2, 1);
        Check.worths(x, 1, 9, 8, 7, 6, 5, 4, 3, 2, 1, 1, 1, 1);
        int[][] due = {{0, 4, 8, 10}, {7, 4, 8, 10}, {8, 4, 8, 10}, {9, 3, 9, 9}, {11, 1, 11, 4}, {12, 0, 12, 0}};
        for (int[] one : due) {
            Check.read(x, "let 0 " + one[0] + ";");
            String call = "let " + one[0] + " of 12: ";
            Check.due(call + "uses as long as the next worth is above 0", x.treaty(10, 0, 2), one[1]);
            Check.due(call + "makes", x.treaty(10, 0, 3), one[3]);
            Check.due(call + "comes below", x.treaty(10, 1, 0), one[2] + 5);
            Check.due(call + "12 at most are used below", x.treaty(10, 1, 2), 12);
        }
        x.set(0, 1, 8);
        x.set(0, 2, 2);
        Check.due("harm of what it lets", x.treaty(10, 0, 3), -8);
        Check.read(x, "let 0 9;");
        Check.due("one above the bank", x.treaty(10, 0, 3), 7);
        Check.read(x, "");
        Check.due("up to the bank", x.treaty(10, 0, 3), 10);
    }

    private static void lostOfAllYears() {
        WaterThanks x = Check.villages(10);
        Check.worths(x, 0, 2, 2, 2, 2, 2, 2, 2, 2, 2, 2, 2, 2);
        Check.read(x, "let 0 1 if wet < 5; let 0 3 if wet > 5;");
        int[] wets = {0, 1, 4, 5, 6, 20};
        // of 20 that come 8 pass anyway
        int[] losses = {0, 2, 2, 0, 6, 0};
        int all = 0;
        Check.due("lost in no year", x.lost(), 0);
        for (int y = 0; y < 6; y++) {
            x.year(wets[y]);
            all += losses[y];
            Check.due("lost until wet " + wets[y], x.lost(), all);
        }
        Check.read(x, "let 0 99;");
        Check.due("all lost", x.lost(), 2 * (1 + 4 + 5 + 6 + 12));
        Check.read(x, "");
        Check.due("no treaty loses nothing here", x.lost(), 0);
        Check.due("no village", new WaterThanks().lost(), 0);
        WaterThanks below = Check.villages(2, 0);
        Check.worths(below, 0, 1, 1);
        Check.worths(below, 1, 9, 9);
        below.year(10);
        Check.due("without a treaty all is used above", below.lost(), 16);
        Check.read(below, "let 0 2;");
        Check.due("as best", below.lost(), 0);
        below.set(0, 1, 0);
        below.set(0, 2, 3);
        Check.due("harm in both", below.lost(), 0);
        Check.read(below, "let 0 2; let 1 1;");
        Check.due("one lost below", below.lost(), 9);
    }

    private static void plain() {
        WaterThanks x = Check.villages(12, 0);
        Check.worths(x, 0, 1, 1, 1, 1, 1, 1);
        Check.worths(x, 1, 5, 5, 5, 5, 5, 5, 5, 5, 5, 5, 5, 5);
        Check.due("no year", x.plain(0), 0);
        Check.due("no year, least m", x.plain(1), 0);
        int[] wets = {20, 10, 5, 0, 1, 3};
        // by m 0 6 are used above, the rest below
        int[] losses = {0, 60 - 36, 30 - 6, 0, 4, 12};
        int all = 0;
        for (int y = 0; y < 6; y++) {
            x.year(wets[y]);
            all += losses[y];
            Check.due("least loss until wet " + wets[y], x.plain(0), all);
            Check.due("least m until wet " + wets[y], x.plain(1), 0);
        }
        Check.read(x, "let 0 12; let 1 3;");
        Check.due("whatever the treaty", x.plain(0), all);
        Check.due("whatever the treaty, least m", x.plain(1), 0);
        x.dam(0, 4);
        Check.due("whatever the dam", x.plain(0), all);
        Check.due("but not by the treaty", x.lost() != all);
        for (int what = -2; what <= 3; what++) {
            Check.due("plain(" + what + ")", (x.plain(what) == -1) == (what < 0 || what > 1));
        }
    }

    private static void breaksOnlyForMore() {
        WaterThanks x = Check.villages(6, 0);
        Check.worths(x, 0, 5, 4, 3);
        Check.worths(x, 1, 2, 2, 2);
        int[] due = {-9, -9, -9, -9, 0, 0, 0};
        for (int told = 0; told <= 6; told++) {
            Check.read(x, "let 0 " + told + ";");
            Check.due("lets " + told + " of 6, of which it could use 3", x.breaks(10), due[told]);
        }
        Check.read(x, "let 0 99; let 1 99;");
        Check.due("the first of two", x.breaks(10), 0);
        Check.due("dry", x.breaks(0), -9);
        Check.read(x, "let 0 3; let 1 99;");
        Check.due("the second", x.breaks(10), 1);
        // what comes to the second is as by THE TREATY, not as if the first broke it
        Check.read(x, "let 0 6; let 1 3;");
        Check.worths(x, 0);
        Check.due("what it could use at 1", x.breaks(10), -9);
        Check.read(x, "let 0 6; let 1 4;");
        Check.due("one less than it could use at 1", x.breaks(10), 1);
        // a worth of 0 is no more, but harm that is less is
        WaterThanks y = Check.villages(3);
        y.set(0, 1, 0);
        y.set(0, 2, 9);
        Check.read(y, "let 0 3;");
        Check.due("it could use none as in KEEP", y.breaks(10), -9);
        Check.worths(y, 0, 1);
        Check.due("it could use one", y.breaks(10), 0);
        Check.read(y, "let 0 2;");
        Check.due("it uses one", y.breaks(10), -9);
        Check.due("no village", new WaterThanks().breaks(20), -9);
    }

    private static void judged(String what, int due, int[]... changes) {
        WaterThanks x = Check.villages(12, 12);
        Check.worths(x, 1, 9, 9, 9, 9, 9, 9, 9, 9, 9, 9, 9, 9);
        x.prove();
        for (int[] change : changes) {
            x.alterRow(change[0], change[1], change[2]);
        }
        Check.due(what, x.judge(), due);
    }

    /** ROWS are (0, 0, 12), (1, 12, 12). */
    private static void rowsOnEitherSide() {
        judged("as proved", 0);
        judged("use 0 to 12", 0, new int[] {0, 1, 12}, new int[] {0, 2, 0}, new int[] {1, 2, 0});
        judged("use 1", 0, new int[] {0, 1, 1}, new int[] {0, 2, 11}, new int[] {1, 2, 11});
        judged("use -1", 1, new int[] {0, 1, -1}, new int[] {0, 2, 13}, new int[] {1, 2, 13});
        judged("use 13 of 12", 1, new int[] {0, 1, 13}, new int[] {0, 2, -1}, new int[] {1, 2, -1});
        judged("use 13 of 24", 2, new int[] {1, 1, 13}, new int[] {1, 2, 11});
        judged("use 11 of 24", 22, new int[] {1, 1, 11}, new int[] {1, 2, 13});
        judged("use 0 of 24", 22, new int[] {1, 1, 0}, new int[] {1, 2, 24});
        judged("one more passes than is left", 1, new int[] {0, 2, 13});
        judged("one less passes than is left", 1, new int[] {0, 2, 11});
        judged("one more passes below", 2, new int[] {1, 2, 13});
        judged("one less passes below", 2, new int[] {1, 2, 11});
        judged("another village's", 1, new int[] {0, 0, 1});
        judged("below another village's", 2, new int[] {1, 0, 0});
        judged("of no village", 2, new int[] {1, 0, 2});
        judged("of village -1", 1, new int[] {0, 0, -1});
        judged("ends of ints", 1, new int[] {0, 1, Integer.MIN_VALUE}, new int[] {0, 2, Integer.MAX_VALUE});
        judged("wrapped to the rest", 1, new int[] {0, 1, Integer.MIN_VALUE}, new int[] {0, 2, 12 - Integer.MIN_VALUE});
        WaterThanks coin = Check.villages(1, 0);
        Check.worths(coin, 0, 5);
        Check.worths(coin, 1, 6);
        coin.prove();
        coin.alterRow(0, 1, 1);
        coin.alterRow(0, 2, 0);
        coin.alterRow(1, 1, 0);
        Check.due("one coin less than best", coin.judge(), 22);
        Check.worths(coin, 0, 6);
        Check.due("as much as best", coin.judge(), 0);
        // 12 come, 12 are used where 11 come
        WaterThanks x = Check.villages(11);
        x.prove();
        x.alterRow(0, 1, 11);
        x.alterRow(0, 2, 0);
        Check.due("all that comes is used", x.judge(), 0);
        x.alterRow(0, 1, 12);
        x.alterRow(0, 2, -1);
        Check.due("more than comes", x.judge(), 1);
    }

    private static void rowsInOrder() {
        WaterThanks x = new WaterThanks();
        Check.due("no rows, no villages", x.judge(), 0);
        x.village(4);
        Check.due("no rows of one village", x.judge(), 21);
        x.keep();
        Check.worths(x, 0, 5);
        Check.due("one row", x.prove(), 1);
        Check.due("one is right", x.judge(), 0);
        x.village(0);
        Check.worths(x, 1, 7);
        Check.due("one row of two villages, though it makes less", x.judge(), 21);
        x.alterRow(0, 2, 4);
        Check.due("a wrong row ahead of how many", x.judge(), 1);
        x.alterRow(0, 2, 3);
        Check.due("how many again", x.judge(), 21);
        Check.due("two rows", x.prove(), 2);
        x.alterRow(1, 1, 0);
        Check.due("a row whose rest isn't", x.judge(), 2);
        x.alterRow(1, 2, 3);
        Check.due("less than best", x.judge(), 22);
        x.again();
        Check.due("two rows of one village", x.judge(), 2);
        x.alterRow(0, 0, 9);
        Check.due("the first wrong one", x.judge(), 1);
    }
}
