/** Promises 39 and 40. */
final class KeptTest {
    public static void main(String[] args) {
        nothingKept();
        allIsKept();
        theRestIsNot();
        theLatestStays();
        Check.end();
    }

    private static void nothingKept() {
        WaterThanks x = Check.villages(3);
        Check.due("40: nothing is kept", x.again(), -3);
        Check.due("40: nothing changed", x.many(0), 1);
        Check.due("39: kept", x.keep(), 1);
        Check.due("40: again", x.again(), 1);
    }

    private static void allIsKept() {
        WaterThanks x = Check.threeVillages();
        for (int what = 1; what < 6; what++) {
            x.set(1, what, what);
        }
        x.year(4);
        x.year(5);
        x.dam(2, 3);
        Check.read(x, "let 0 7; let 1 3 if wet < 5 and not comes = 2;");
        Check.due("39: kept", x.keep(), 1);
        for (int what = 0; what < 6; what++) {
            x.set(1, what, 6);
        }
        Check.worths(x, 2, 1);
        x.village(9);
        x.year(20);
        x.yearOf(0, 20);
        x.dam(0, 1);
        Check.read(x, "let 0 1 if wet = 4; let 1 2; let 2 3;");
        Check.due("40: again", x.again(), 1);
        int[] dueFacts = {2, 1, 2, 3, 4, 5};
        for (int what = 0; what < 6; what++) {
            Check.due("40: fact " + what, x.villageOf(1, what), dueFacts[what]);
        }
        int[] dueMany = {3, 2, 2, 0, 0, 0, 3, 2};
        for (int what = 0; what < dueMany.length; what++) {
            Check.due("40: many " + what, x.many(what), dueMany[what]);
        }
        Check.due("40: worths", x.worth(2, 12), 75);
        Check.due("40: a year's wet", x.yearOf(0, 4), 4);
        Check.due("40: lets", x.treaty(20, 0, 1), 7);
        Check.due("40: lets, if", x.treaty(4, 1, 1), 0);
        Check.due("40: lets, of 3", x.treaty(4, 1, 0), 2);
        x.set(1, 0, 12);
        Check.due("40: lets, its condition holds", x.treaty(4, 1, 1), 3);
        Check.due("40: lets, its condition doesn't", x.treaty(5, 1, 1), 0);
    }

    private static void theRestIsNot() {
        WaterThanks x = Check.threeVillages();
        x.keep();
        Check.feed(x, "let 0 9;");
        x.prove();
        x.alterRow(0, 1, 12);
        x.sheet(2, 2, 4);
        x.put(2, 3, 5);
        x.shelf(1, 7, 2);
        x.shelf(2, 6, 2);
        x.act(2, 1, 4);
        Check.due("40: again", x.again(), 1);
        Check.due("40: the tape stays", x.many(4), 8);
        Check.due("40: rows stay", x.row(0, 1), 12);
        Check.due("40: how many rows", x.many(3), 3);
        Check.due("40: sheets stay", x.item(2, 2, 3), 5);
        Check.due("40: shelves stay", x.taken(1, 12), 4);
        Check.due("40: things stay", x.taken(2, 6), 2);
        Check.due("40: the trace stays", x.trace(1), 70);
        Check.due("40: the treaty as it was", x.many(2), 0);
        Check.due("40: read from the tape", x.read(), 1);
        WaterThanks y = Check.villages(4);
        Check.feed(y, "let");
        y.sheet(0, 0, 3);
        y.shelf(0, 6, 0);
        y.prove();
        y.keep();
        y.read();
        y.sheet(0, -1, 0);
        y.shelf(0, 8, 0);
        y.village(1);
        y.prove();
        y.again();
        Check.due("40: the tape is used up", y.many(4), 0);
        Check.due("40: the sheet is missing", y.item(0, 0, 0), -11);
        Check.due("40: the shelf holds nothing", y.taken(0, 6), -11);
        Check.due("40: two rows", y.many(3), 2);
    }

    private static void theLatestStays() {
        WaterThanks x = Check.villages(1);
        x.keep();
        x.set(0, 0, 2);
        x.keep();
        x.set(0, 0, 3);
        x.again();
        Check.due("40: the latest", x.villageOf(0, 0), 2);
        x.set(0, 0, 4);
        Check.worths(x, 0, 9);
        Check.due("40: it stays", x.again(), 1);
        Check.due("40: the latest, again", x.villageOf(0, 0), 2);
        Check.due("40: its worths", x.worth(0, 12), 0);
        // a village that comes where one was taken back is new
        x.village(5);
        x.set(1, 3, 9);
        Check.worths(x, 1, 9);
        x.again();
        Check.due("40: a village anew", x.village(6), 1);
        Check.due("2: its dirt", x.villageOf(1, 3), 0);
        Check.due("2: its worths", x.worth(1, 12), 0);
        Check.due("2: its flow", x.villageOf(1, 0), 6);
    }
}
