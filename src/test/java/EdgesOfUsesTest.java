/** The edges that section 1 of the document's Terms names, sentence by sentence. */
final class EdgesOfUsesTest {
    private static final int LOW_BAD = -1000001;
    private static final int[] LEAST_FACT = {0, 0, 0, 0, 0, 1};
    private static final int[] FIRST_FACT = {0, 99, 0, 0, 99, 1};
    private static final int[] MOST_FACT = {12, 99, 9, 20, 99, 9};

    public static void main(String[] args) {
        sixAtMost();
        flowOfTheCall();
        factsOnEitherSide();
        worthsOnEitherSide();
        worthsTogether();
        wetOnEitherSide();
        flowTimesWetIsCut();
        tenIfNoYearIsTold();
        comesWithWhatPasses();
        twelveAtMost();
        aboveTheBank();
        aboveTheHighestBank();
        bestLesserFirst();
        bestOfNothing();
        oneMeasureMore();
        Check.end();
    }

    private static void sixAtMost() {
        WaterThanks x = new WaterThanks();
        for (int v = 0; v < 6; v++) {
            Check.due("6 at most: how many ahead", x.many(0), v);
            Check.due("6 at most: not yet", x.villageOf(v, 0), -1);
            Check.due("6 at most: the next", x.village(12 - v), v);
            for (int what = 1; what < 6; what++) {
                Check.due("at first, " + what, x.villageOf(v, what), FIRST_FACT[what]);
            }
            Check.due("all 0 at first", x.worth(v, 12), 0);
        }
        Check.due("6 at most: the seventh", x.village(0), -2);
        Check.due("6 at most: how many", x.many(0), 6);
        for (int v = 0; v < 6; v++) {
            Check.due("numbered as they come: " + v, x.villageOf(v, 0), 12 - v);
        }
        // the water goes from a lower number to a higher one only
        WaterThanks y = Check.villages(0, 1, 0);
        Check.worths(y, 0, 9);
        Check.worths(y, 2, 4);
        Check.due("each above the next one", y.best(10), 4);
    }

    private static void flowOfTheCall() {
        for (int flow = -2; flow <= 14; flow++) {
            WaterThanks x = new WaterThanks();
            boolean told = flow >= 0 && flow <= 12;
            Check.due("village(" + flow + ")", x.village(flow), told ? 0 : -1);
            Check.due("village(" + flow + "), how many", x.many(0), told ? 1 : 0);
            Check.due("village(" + flow + "), its flow", x.villageOf(0, 0), told ? flow : -1);
        }
    }

    private static void factsOnEitherSide() {
        for (int what = 0; what < 6; what++) {
            WaterThanks x = Check.villages(0, 0, 0);
            int was = FIRST_FACT[what];
            for (int n = LEAST_FACT[what] - 2; n <= MOST_FACT[what] + 2; n++) {
                boolean told = n >= LEAST_FACT[what] && n <= MOST_FACT[what];
                Check.due("set(1, " + what + ", " + n + ")", x.set(1, what, n), told ? was : -1);
                was = told ? n : was;
                Check.due("it becomes " + n, x.villageOf(1, what), was);
            }
            Check.due("the one above, " + what, x.villageOf(0, what), FIRST_FACT[what]);
            Check.due("the one below, " + what, x.villageOf(2, what), FIRST_FACT[what]);
        }
    }

    /** "0 to 99, none above the one ahead", at each of the 12 places. */
    private static void worthsOnEitherSide() {
        for (int at = 0; at < 12; at++) {
            int ahead = at == 0 ? 99 : 50;
            int behind = at == 11 ? 0 : 20;
            told(at, ahead, 50, 20, 1);
            told(at, behind, 50, 20, 1);
            told(at, ahead + 1, 50, 20, -4);
            told(at, behind - 1, 50, 20, -4);
            told(at, 0, at == 0 ? 0 : 50, 0, 1);
            told(at, -1, 50, 0, -4);
            told(at, 99, 99, 99, 1);
            told(at, 100, 99, 99, -4);
            told(at, -128, 99, 0, -4);
            told(at, 127, 99, 0, -4);
        }
    }

    /** One number at a place, those ahead of it and those behind it. */
    private static void told(int at, int n, int ahead, int behind, int due) {
        WaterThanks x = Check.villages(3);
        x.sheet(1, 0, 12);
        int all = 0;
        for (int i = 0; i < 12; i++) {
            int item = i < at ? ahead : i == at ? n : behind;
            x.put(1, i, item);
            all += item;
        }
        String call = "worths " + ahead + " .., " + n + " at " + at + ", " + behind + " ..";
        Check.due(call, x.worths(0, 1), due);
        Check.due(call + ", all", x.worth(0, 12), due == 1 ? all : 0);
    }

    private static void worthsTogether() {
        WaterThanks x = Check.villages(3);
        for (int n = -2; n <= 14; n++) {
            Check.due("worth(0, " + n + ") at first", x.worth(0, n), n >= 0 && n <= 12 ? 0 : -1);
        }
        Check.worths(x, 0, 99, 99, 99, 99, 99, 99, 99, 99, 99, 99, 99, 99);
        for (int n = -2; n <= 14; n++) {
            Check.due("worth(0, " + n + ") of 99", x.worth(0, n), n >= 0 && n <= 12 ? 99 * n : -1);
        }
    }

    private static void wetOnEitherSide() {
        WaterThanks x = Check.villages(10);
        Check.worths(x, 0, 1, 1, 1, 1, 1, 1, 1, 1, 1, 1, 1, 1);
        x.year(0);
        int was = 0;
        for (int wet = -2; wet <= 22; wet++) {
            boolean told = wet >= 0 && wet <= 20;
            Check.due("best(" + wet + ")", x.best(wet), told ? Math.min(12, wet) : LOW_BAD);
            Check.due("treaty(" + wet + ", 0, 0)", x.treaty(wet, 0, 0), told ? wet : LOW_BAD);
            Check.due("breaks(" + wet + ")", x.breaks(wet), told ? -9 : -1);
            Check.due("yearOf(0, " + wet + ")", x.yearOf(0, wet), told ? was : -1);
            was = told ? wet : was;
            Check.due("year(" + wet + ")", new WaterThanks().year(wet), told ? 0 : -1);
        }
    }

    private static void flowTimesWetIsCut() {
        int[][] due = {{9, 1, 0}, {10, 1, 1}, {12, 1, 1}, {3, 3, 0}, {4, 5, 2}, {7, 3, 2}, {11, 9, 9}, {12, 19, 22},
            {12, 20, 24}, {1, 9, 0}, {1, 10, 1}, {1, 19, 1}, {1, 20, 2}, {5, 2, 1}, {5, 1, 0}, {0, 20, 0}, {12, 0, 0}};
        for (int[] one : due) {
            WaterThanks x = Check.villages(one[0]);
            Check.due("flow " + one[0] + ", wet " + one[1], x.treaty(one[1], 0, 0), one[2]);
            Check.worths(x, 0, 7, 7, 7, 7, 7, 7, 7, 7, 7, 7, 7, 7);
            Check.due("best of flow " + one[0] + ", wet " + one[1], x.best(one[1]), 7 * Math.min(12, one[2]));
        }
        // cut at each village by itself, not when all have come together
        WaterThanks x = Check.villages(5, 5, 9);
        Check.due("halves don't add", x.treaty(1, 1, 0), 0);
        Check.due("nor do three", x.treaty(1, 2, 0), 0);
        Check.due("one and a half each", x.treaty(3, 1, 0), 2);
        Check.due("and 2.7", x.treaty(3, 2, 0), 4);
    }

    private static void tenIfNoYearIsTold() {
        WaterThanks x = Check.threeVillages();
        WaterThanks y = Check.threeVillages();
        y.year(20);
        y.year(0);
        y.best(3);
        y.treaty(17, 0, 0);
        y.kept(-1);
        for (int v = 0; v < 3; v++) {
            for (int what = 0; what < 3; what++) {
                Check.due("wet 10: use", y.use(v, what), x.use(v, what));
            }
            Check.due("wet 10: price", y.price(v), 8);
            Check.due("wet 10: run", y.run(v, 2), new int[] {135, 50, 0}[v]);
            Check.due("wet 10: most", y.most(v), new int[] {60, 36, 75}[v]);
            Check.due("wet 10: share", y.share(1, v, 0), new int[] {60, 31, 44}[v]);
        }
        y.breaks(20);
        Check.due("wet 10: broken", y.broken(0), 101);
        y.lost();
        Check.fill(y, 0, 2, 15, 6, -21);
        Check.due("wet 10: lawful", y.lawful(0), 0);
        y.lost();
        y.prove();
        Check.due("wet 10: rows", y.row(0, 2), 3);
        y.best(0);
        Check.due("wet 10: judge", y.judge(), 0);
        y.shelf(0, 0, 0);
        Check.due("wet 10: act", y.act(0, 0, 0), 45);
    }

    private static void comesWithWhatPasses() {
        WaterThanks x = Check.villages(4, 0, 3);
        Check.worths(x, 0, 9);
        int[][] due = {{4, 1, 3}, {3, 0, 3}, {6, 0, 6}};
        for (int v = 0; v < 3; v++) {
            Check.due("comes to " + v, x.treaty(10, v, 0), due[v][0]);
            Check.due("of which it uses", x.treaty(10, v, 2), due[v][1]);
            Check.due("the rest passes", x.use(v, 1), due[v][2]);
        }
    }

    private static void twelveAtMost() {
        WaterThanks x = Check.villages(12, 12);
        Check.worths(x, 1, 9, 9, 9, 9, 9, 9, 9, 9, 9, 9, 9, 9);
        Check.due("24 come, 12 are used", x.use(1, 0), 12);
        Check.due("24 come, 12 pass", x.use(1, 1), 12);
        Check.due("24 come, 12 are of worth", x.use(1, 2), 108);
        Check.due("24 come by the treaty", x.treaty(10, 1, 0), 24);
        Check.due("12 of them are used", x.treaty(10, 1, 2), 12);
        x.set(0, 0, 0);
        Check.due("12 come, 12 are used", x.use(1, 0), 12);
        Check.due("12 come, none passes", x.use(1, 1), 0);
        x.set(0, 0, 1);
        Check.due("13 come, 12 are used", x.use(1, 0), 12);
        Check.due("13 come, one passes", x.use(1, 1), 1);
        x.set(0, 0, 0);
        x.set(1, 0, 11);
        Check.due("11 come, 11 are used", x.use(1, 0), 11);
        Check.due("11 come, 11 are of worth", x.best(10), 99);
        Check.due("22 come, 12 are of worth", x.best(20), 108);
    }

    /** No worths: all passes by the treaty. */
    private static void aboveTheBank() {
        WaterThanks x = Check.villages(0);
        x.set(0, 1, 5);
        x.set(0, 2, 4);
        for (int flow = 0; flow <= 12; flow++) {
            x.set(0, 0, flow);
            int due = flow <= 5 ? 0 : -4 * (flow - 5);
            Check.due("bank 5, harm 4, " + flow + " pass", x.treaty(10, 0, 3), due);
            Check.due("as share of KEEP", x.share(0, 0, 0), due);
        }
        int[][] due = {{0, 0, 0, 0}, {0, 1, 1, -1}, {0, 9, 1, -9}, {11, 9, 12, -9}, {12, 9, 12, 0}, {13, 9, 12, 0},
            {0, 9, 12, -108}, {0, 0, 12, 0}, {1, 1, 1, 0}, {1, 1, 2, -1}};
        for (int[] one : due) {
            x.set(0, 1, one[0]);
            x.set(0, 2, one[1]);
            x.set(0, 0, one[2]);
            Check.due("bank, harm, passing " + one[0] + ", " + one[1] + ", " + one[2], x.treaty(10, 0, 3), one[3]);
        }
    }

    private static void aboveTheHighestBank() {
        WaterThanks x = Check.villages(12, 12, 12, 12, 3, 1);
        for (int v = 0; v < 6; v++) {
            x.set(v, 2, 9);
        }
        // 24, 48, 72, 96, 102, 104 pass
        int[] due = {0, 0, 0, 0, -27, -45};
        for (int v = 0; v < 6; v++) {
            Check.due("bank 99 in the wettest year, " + v, x.treaty(20, v, 3), due[v]);
        }
        x.set(4, 0, 1);
        x.set(5, 0, 0);
        Check.due("98 pass", x.treaty(20, 4, 3), 0);
        x.set(5, 0, 1);
        Check.due("100 pass", x.treaty(20, 5, 3), -9);
        x.set(5, 1, 98);
        Check.due("100 pass a bank of 98", x.treaty(20, 5, 3), -18);
        x.set(4, 1, 98);
        Check.due("98 pass a bank of 98", x.treaty(20, 4, 3), 0);
        x.set(4, 1, 97);
        Check.due("98 pass a bank of 97", x.treaty(20, 4, 3), -9);
    }

    private static void uses(String what, WaterThanks x, int... due) {
        x.prove();
        for (int v = 0; v < due.length; v++) {
            Check.due(what + ": use of " + v, x.use(v, 0), due[v]);
            Check.due(what + ": row of " + v, x.row(v, 1), due[v]);
        }
    }

    private static void bestLesserFirst() {
        WaterThanks x = Check.villages(1, 0, 0);
        Check.worths(x, 0, 5);
        Check.worths(x, 1, 5);
        uses("as good at 0 and 1", x, 0, 1, 0);
        Check.worths(x, 2, 5);
        uses("as good at all", x, 0, 0, 1);
        Check.worths(x, 1, 6);
        uses("better at 1", x, 0, 1, 0);
        Check.worths(x, 0, 6);
        uses("as good at 0 and 1 again", x, 0, 1, 0);
        Check.worths(x, 0, 7);
        uses("better at 0", x, 1, 0, 0);
        WaterThanks y = Check.villages(4);
        Check.worths(y, 0, 3, 3);
        uses("worths of 0 are not used", y, 2);
        y.set(0, 1, 1);
        uses("without harm neither", y, 2);
        y.set(0, 2, 1);
        uses("but against harm", y, 3);
        // to pass a measure harms as much as it is worth below
        WaterThanks z = Check.villages(1, 0);
        z.set(0, 1, 0);
        z.set(0, 2, 3);
        Check.worths(z, 1, 3);
        uses("harm and worth are even", z, 0, 1);
        Check.worths(z, 1, 2);
        uses("more harm than worth", z, 1, 0);
        Check.worths(z, 1, 4);
        uses("more worth than harm", z, 0, 1);
        Check.worths(z, 0, 1);
        uses("even again", z, 0, 1);
        Check.worths(z, 0, 2);
        uses("better above", z, 1, 0);
    }

    private static void bestOfNothing() {
        WaterThanks none = new WaterThanks();
        WaterThanks dry = Check.villages(0, 0);
        Check.worths(dry, 0, 99, 99);
        WaterThanks worthless = Check.villages(12, 12);
        for (int wet = 0; wet <= 20; wet += 5) {
            Check.due("no village", none.best(wet), 0);
            Check.due("no measure", dry.best(wet), 0);
            Check.due("no worth", worthless.best(wet), 0);
        }
        uses("no measure", dry, 0, 0);
        uses("no worth", worthless, 0, 0);
        Check.due("no measure: price", dry.price(0), 99);
        Check.due("no measure: price below", dry.price(1), 0);
        Check.due("no worth: price", worthless.price(0), 0);
    }

    private static void oneMeasureMore() {
        // FLOW is 12 at most, but 13 may come in
        WaterThanks x = Check.villages(12, 0);
        Check.worths(x, 0, 5, 5, 5, 5, 5, 5, 5, 5, 5, 5, 5, 5);
        Check.due("the thirteenth is of no use", x.price(0), 0);
        Check.due("nor below", x.price(1), 0);
        Check.worths(x, 1, 2);
        Check.due("but below", x.price(0), 2);
        Check.worths(x, 1, 7, 6);
        Check.due("what is taken from above may stay there", x.price(1), 5);
        Check.due("as much above", x.price(0), 5);
        // one measure, whatever the year: not one more of FLOW
        WaterThanks y = Check.villages(0);
        Check.worths(y, 0, 8, 8, 8);
        Check.due("one measure", y.price(0), 8);
        y.set(0, 0, 2);
        Check.due("the last of worth", y.price(0), 8);
        y.set(0, 0, 3);
        Check.due("none of worth", y.price(0), 0);
        y.set(0, 1, 3);
        y.set(0, 2, 6);
        Check.due("used against harm", y.price(0), 0);
        y.set(0, 0, 12);
        Check.due("12 come, the thirteenth passes", y.price(0), 0);
        y.set(0, 1, 0);
        Check.due("12 are used, the thirteenth harms", y.price(0), -6);
    }
}
