/** Promises 16 to 19. */
final class YearsTest {
    private static final int LOW_BAD = -1000001;
    private static final int MIN = Integer.MIN_VALUE;
    private static final int MAX = Integer.MAX_VALUE;

    public static void main(String[] args) {
        promise16();
        promise17();
        promise18();
        promise19();
        promise19LessFirst();
        promise19NoneOfNothing();
        promise19Harm();
        Check.end();
    }

    private static void promise16() {
        WaterThanks x = new WaterThanks();
        Check.due("16: wet -1", x.year(-1), -1);
        Check.due("16: wet 21", x.year(21), -1);
        Check.due("16: extremes", x.year(MAX), -1);
        for (int y = 0; y < 6; y++) {
            Check.due("16: number", x.year(4 * y), y);
            Check.due("16: how many", x.many(1), y + 1);
        }
        Check.due("16: full", x.year(0), -2);
        Check.due("16: bad ahead of full", x.year(21), -1);
        Check.due("16: still six", x.many(1), 6);
        Check.due("16: the wet of the last", x.yearOf(5, 1), 20);
    }

    private static void promise17() {
        WaterThanks x = new WaterThanks();
        Check.due("17: no year", x.yearOf(0, 1), -1);
        x.year(7);
        x.year(8);
        Check.due("17: was 7", x.yearOf(0, 0), 7);
        Check.due("17: was 0", x.yearOf(0, 20), 0);
        Check.due("17: wet 21", x.yearOf(0, 21), -1);
        Check.due("17: wet -1", x.yearOf(0, -1), -1);
        Check.due("17: was 20", x.yearOf(0, 3), 20);
        Check.due("17: the other", x.yearOf(1, 3), 8);
        Check.due("17: year 2", x.yearOf(2, 3), -1);
        Check.due("17: year -1", x.yearOf(-1, 3), -1);
        Check.due("17: extremes", x.yearOf(MIN, MAX), -1);
    }

    private static void promise18() {
        WaterThanks x = Check.villages(3, 3);
        Check.due("18: at the last", x.dam(1, 4), 1);
        Check.due("18: where", x.many(7), 1);
        Check.due("18: holds", x.many(6), 4);
        Check.due("18: village 2", x.dam(2, 1), -1);
        Check.due("18: village -2", x.dam(-2, 1), -1);
        Check.due("18: holds 5", x.dam(0, 5), -1);
        Check.due("18: holds -1", x.dam(0, -1), -1);
        Check.due("18: none, holds 5", x.dam(-1, 5), -1);
        Check.due("18: extremes", x.dam(MIN, MAX), -1);
        Check.due("18: refused, still there", x.many(7), 1);
        Check.due("18: refused, still holds", x.many(6), 4);
        Check.due("18: at none", x.dam(-1, 2), 1);
        Check.due("18: at none, where", x.many(7), -1);
        Check.due("18: at none, holds", x.many(6), 2);
    }

    /** Two villages whose next measure is worth 9 .. 1 and 10 .. 1, in a plain, a dry and a wet year. */
    private static WaterThanks threeYears() {
        WaterThanks x = Check.villages(5, 3);
        Check.worths(x, 0, 9, 8, 7, 6, 5, 4, 3, 2, 1);
        Check.worths(x, 1, 10, 9, 8, 7, 6, 5, 4, 3, 2, 1);
        x.year(10);
        x.year(0);
        x.year(20);
        return x;
    }

    private static void promise19() {
        WaterThanks x = threeYears();
        Check.due("19: without a dam", x.kept(-1), 160);
        for (int y = 0; y < 3; y++) {
            Check.due("19: none held, " + y, x.kept(y), 0);
        }
        x.dam(0, 4);
        Check.due("19: dam at 0", x.kept(-1), 168);
        Check.due("19: held behind 0", x.kept(0), 3);
        Check.due("19: held behind 1", x.kept(1), 0);
        Check.due("19: held behind 2", x.kept(2), 0);
        Check.due("19: year 3", x.kept(3), LOW_BAD);
        Check.due("19: year -2", x.kept(-2), LOW_BAD);
        Check.due("19: least int", x.kept(MIN), LOW_BAD);
        x.dam(1, 2);
        Check.due("19: dam at 1", x.kept(-1), 166);
        Check.due("19: all that it holds", x.kept(0), 2);
        x.dam(-1, 4);
        Check.due("19: at none it holds none", x.kept(-1), 160);
        Check.due("19: at none, behind 0", x.kept(0), 0);
        x.dam(0, 0);
        Check.due("19: holds 0", x.kept(-1), 160);
        x.dam(0, 4);
        x.yearOf(0, 0);
        x.yearOf(1, 10);
        Check.due("19: nothing ahead of year 0", x.kept(-1), 160);
    }

    private static void promise19LessFirst() {
        // each measure is worth 5 in either year: it may be held or not
        WaterThanks x = Check.villages(3);
        Check.worths(x, 0, 5, 5, 5, 5, 5, 5, 5, 5);
        x.dam(0, 4);
        x.year(10);
        x.year(10);
        Check.due("19: same worth", x.kept(-1), 30);
        Check.due("19: less first", x.kept(0), 0);
        // over two dry years: what is of use in either is used early
        x.yearOf(1, 0);
        x.year(0);
        Check.worths(x, 0, 5, 3);
        Check.due("19: over two years", x.kept(-1), 5 + 5 + 5);
        Check.due("19: two held", x.kept(0), 2);
        Check.due("19: one held on", x.kept(1), 1);
        Check.due("19: none at the end", x.kept(2), 0);
        x.set(0, 0, 12);
        Check.due("19: more than is of use", x.kept(-1), 24);
        Check.due("19: no more held than must be", x.kept(0), 4);
        Check.due("19: half of it on", x.kept(1), 2);
    }

    private static void promise19NoneOfNothing() {
        // 2 come in at the dam in year 0, none in year 1: no more can be held than there is
        WaterThanks x = Check.villages(2, 9);
        Check.worths(x, 0, 9, 9, 9, 9, 9);
        x.dam(0, 4);
        x.year(10);
        x.year(0);
        x.yearOf(1, 0);
        Check.worths(x, 1, 1, 1, 1, 1, 1, 1, 1, 1, 1);
        Check.due("19: what there is", x.kept(-1), 18 + 9);
        Check.worths(x, 0, 9);
        Check.due("19: one of two", x.kept(-1), 18 + 9);
        Check.due("19: one held", x.kept(0), 1);
        x.set(0, 0, 0);
        x.set(1, 0, 0);
        Check.due("19: where nothing comes in nothing is held", x.kept(-1), 0);
        Check.due("19: nothing held", x.kept(0), 0);
    }

    private static void promise19Harm() {
        // 24 come in the wet year: the 12 that pass harm above 10, so two are held back
        WaterThanks x = Check.villages(12);
        x.set(0, 1, 10);
        x.set(0, 2, 9);
        x.year(20);
        x.year(5);
        Check.due("19: harm", x.kept(-1), -18);
        x.dam(0, 1);
        Check.due("19: harm, one held", x.kept(-1), -9);
        x.dam(0, 4);
        Check.due("19: no harm", x.kept(-1), 0);
        Check.due("19: held against harm", x.kept(0), 2);
        Check.due("19: held for the last year is of no use", x.kept(1), 0);
        x.yearOf(1, 20);
        Check.due("19: held behind the last", x.kept(1), 4);
        Check.due("19: four away in all", x.kept(-1), 0);
        Check.due("19: two behind the first", x.kept(0), 2);
    }
}
